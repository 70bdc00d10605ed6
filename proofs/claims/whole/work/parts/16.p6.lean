/-! Blocks touched: how many values a row of numbers takes. -/
def hit (f : Nat → Nat) (v : Nat) : Nat → Bool
  | 0 => false
  | m + 1 => hit f v m || (f m == v)
theorem hit_iff (f : Nat → Nat) (v : Nat) : ∀ m, hit f v m = true ↔ ∃ j, j < m ∧ f j = v
  | 0 => by
    refine ⟨fun h => by simp [hit] at h, fun ⟨j, h, _⟩ => absurd h (by omega)⟩
  | m + 1 => by
    rw [hit, Bool.or_eq_true, beq_iff_eq, hit_iff f v m]
    constructor
    · rintro (⟨j, h, e⟩ | e)
      · exact ⟨j, by omega, e⟩
      · exact ⟨m, by omega, e⟩
    · rintro ⟨j, h, e⟩
      rcases Nat.lt_or_ge j m with q | q
      · exact Or.inl ⟨j, q, e⟩
      · obtain rfl : j = m := by omega
        exact Or.inr e
def dc (f : Nat → Nat) : Nat → Nat
  | 0 => 0
  | m + 1 => dc f m + (if hit f (f m) m = true then 0 else 1)
theorem dc_s (f : Nat → Nat) (m : Nat) : dc f (m + 1) = dc f m + (if hit f (f m) m = true then 0 else 1) := rfl
theorem dc_le (f : Nat → Nat) : ∀ m, dc f m ≤ m
  | 0 => Nat.le_refl 0
  | m + 1 => by
    have h := dc_le f m
    rw [dc_s]
    split <;> omega
def bc (f : Nat → Nat) (m : Nat) : Nat → Nat
  | 0 => 0
  | n + 1 => bc f m n + (if hit f n m = true then 1 else 0)
theorem bc_s (f : Nat → Nat) (m n : Nat) : bc f m (n + 1) = bc f m n + (if hit f n m = true then 1 else 0) := rfl
theorem bc_m (f : Nat → Nat) (m : Nat) : ∀ n, bc f (m + 1) n = bc f m n + (if f m < n ∧ ¬ hit f (f m) m = true then 1 else 0)
  | 0 => by rw [if_neg (fun q => absurd q.1 (by omega))]; rfl
  | n + 1 => by
    rw [bc_s, bc_s, bc_m f m n]
    by_cases e : f m = n
    · subst e
      have h1 : hit f (f m) (m + 1) = true := (hit_iff f (f m) (m + 1)).mpr ⟨m, by omega, rfl⟩
      rw [if_neg (fun q => absurd q.1 (by omega)), if_pos h1]
      by_cases c : hit f (f m) m = true
      · rw [if_pos c, if_neg (fun q => q.2 c)]
      · rw [if_neg c, if_pos ⟨by omega, c⟩]
    · have h1 : hit f n (m + 1) = hit f n m := by
        have h0 : (f m == n) = false := by simpa using e
        rw [hit, h0, Bool.or_false]
      have e2 : (f m < n + 1 ∧ ¬ hit f (f m) m = true) ↔ (f m < n ∧ ¬ hit f (f m) m = true) := ⟨fun q => ⟨by omega, q.2⟩, fun q => ⟨by omega, q.2⟩⟩
      rw [h1]
      simp only [e2]
      exact Nat.add_right_comm _ _ _
theorem bc_dc (f : Nat → Nat) (n : Nat) : ∀ m, (∀ j, j < m → f j < n) → bc f m n = dc f m
  | 0, _ => by
    have : ∀ n, bc f 0 n = 0 := by
      intro n
      induction n with
      | zero => rfl
      | succ n ih => rw [bc_s, ih]; rfl
    exact this n
  | m + 1, h => by
    rw [bc_m, dc_s, bc_dc f n m (fun j hj => h j (by omega))]
    have hm := h m (by omega)
    by_cases c : hit f (f m) m = true
    · rw [if_pos c, if_neg (fun q => q.2 c)]
    · rw [if_neg c, if_pos ⟨hm, c⟩]
theorem bc_congr {f g : Nat → Nat} {m m' : Nat} (h : ∀ v, hit f v m = hit g v m') : ∀ n, bc f m n = bc g m' n
  | 0 => rfl
  | n + 1 => by rw [bc_s, bc_s, bc_congr h n, h n]
/-- the store's row of known blocks holds the values of f so far -/
def Nb (f : Nat → Nat) (m : Nat) (B : Nat → Int32) : Prop := (∀ i, i < dc f m → ∃ j, j < m ∧ B i = nI (f j)) ∧ ∀ j, j < m → ∃ i, i < dc f m ∧ B i = nI (f j)
theorem p_S_noteBlock {f : Nat → Nat} {m : Nat} {B : Nat → Int32} {post : Int32 → (Nat → Int32) → Prop} (hm : m < 14) (hf : ∀ j, j ≤ m → f j < 2 ^ 31) (hB : Nb f m B) (h : ∀ B', Nb f (m + 1) B' → post (nI (dc f (m + 1))) B') : wp_S_noteBlock B (nI (f m)) (nI (dc f m)) post := by
  have hd := dc_le f m
  have key : ∀ k i, i + k = dc f m → (∀ i', i' < i → ¬ B i' = nI (f m)) → wp_S_noteBlock_L2 (nI (f m)) (nI (dc f m)) post (k + 1) (nI i) B := by
    intro k
    induction k with
    | zero =>
      intro i e hi
      obtain rfl : i = dc f m := by omega
      have hn : ¬ hit f (f m) m = true := by
        intro q
        obtain ⟨j, hj, ej⟩ := (hit_iff f (f m) m).mp q
        obtain ⟨i, hi1, hi2⟩ := hB.2 j hj
        exact hi i hi1 (by rw [hi2, ej])
      rw [wp_S_noteBlock_L2, nI_clamp (by omega), nI_1]
      refine ⟨fun _ => ⟨vp_in_nI (by omega) (by decide), ?_⟩, fun c => absurd (nI_le (Nat.le_refl _) (by omega)) c⟩
      have e : dc f (m + 1) = dc f m + 1 := by rw [dc_s, if_neg hn]
      have := h (upd B (dc f m) (nI (f m)))
      rw [e] at this
      refine this ⟨fun i hi9 => ?_, fun j hj => ?_⟩
      · rw [e] at hi9
        rcases Nat.lt_or_ge i (dc f m) with q | q
        · obtain ⟨j, hj, ej⟩ := hB.1 i q
          exact ⟨j, by omega, by rw [pk_un (by omega)]; exact ej⟩
        · obtain rfl : i = dc f m := by omega
          exact ⟨m, by omega, pk_us⟩
      · rw [e]
        rcases Nat.lt_or_ge j m with q | q
        · obtain ⟨i, hi1, hi2⟩ := hB.2 j q
          exact ⟨i, by omega, by rw [pk_un (by omega)]; exact hi2⟩
        · obtain rfl : j = m := by omega
          exact ⟨dc f j, by omega, pk_us⟩
    | succ k ih =>
      intro i e hi
      rw [wp_S_noteBlock_L2, nI_clamp (show i < 2 ^ 31 by omega), nI_1, nI_1]
      refine ⟨fun c => absurd c (nI_ge (by omega) (by omega)), fun _ => ⟨vp_in_nI (by omega) (by decide), fun c => ?_, fun c => ?_⟩⟩
      · obtain ⟨j, hj, ej⟩ := hB.1 i (by omega)
        have e2 : f j = f m := by
          rw [ej] at c
          rw [nI_eq (hf j (by omega)) (hf m (by omega))] at c
          exact c
        have hn : hit f (f m) m = true := (hit_iff f (f m) m).mpr ⟨j, hj, e2⟩
        have e3 : dc f (m + 1) = dc f m := by rw [dc_s, if_pos hn]; rfl
        have := h B
        rw [e3] at this
        refine this ⟨fun i hi9 => ?_, fun j' hj' => ?_⟩
        · rw [e3] at hi9
          obtain ⟨j, hj, ej⟩ := hB.1 i hi9
          exact ⟨j, by omega, ej⟩
        · rw [e3]
          rcases Nat.lt_or_ge j' m with q | q
          · exact hB.2 j' q
          · obtain rfl : j' = m := by omega
            obtain ⟨i, hi1, hi2⟩ := hB.2 j hj
            exact ⟨i, hi1, by rw [hi2, e2]⟩
      · refine ih (i + 1) (by omega) (fun i' hi' => ?_)
        rcases Nat.lt_or_ge i' i with q | q
        · exact hi i' q
        · obtain rfl : i' = i := by omega
          exact c
  unfold wp_S_noteBlock
  exact ⟨_, key (dc f m) 0 (by omega) (fun i' h => absurd h (by omega))⟩
/-- the store's order: the nodes from below, then the cells -/
def fS (K : Nat → Int64) (t : Nat) (key : Int64) (b : Nat) (j : Nat) : Nat := if j < t then pit 8 (nd K t key (t - 1 - j)) t / b else (2 ^ t + sg K t key * 8 + (j - t)) / b
def nodeAt (K : Nat → Int64) (t : Nat) (key : Int64) (j : Nat) : Nat := if j < t then nd K t key (t - 1 - j) else 0
theorem nd_half (K : Nat → Int64) (t : Nat) (key : Int64) (d : Nat) : nd K t key (d + 1) / 2 = nd K t key d := by
  rw [nd_s]
  split <;> omega
theorem nodeAt_s {K : Nat → Int64} {t : Nat} {key : Int64} {j : Nat} (h : j < t) : nodeAt K t key j / 2 = nodeAt K t key (j + 1) := by
  unfold nodeAt
  rw [if_pos h]
  by_cases c : j + 1 < t
  · rw [if_pos c, show t - 1 - j = (t - 1 - (j + 1)) + 1 by omega, nd_half]
  · rw [if_neg c, show t - 1 - j = 0 by omega, nd]
theorem nd_lt {K : Nat → Int64} {t : Nat} {key : Int64} {d : Nat} (hd : d < t) : 1 ≤ nd K t key d ∧ nd K t key d < 2 ^ t := by
  have h := nd_in K t key d
  have hp := n_pp d
  have h2 : 2 ^ (d + 1) ≤ 2 ^ t := Nat.pow_le_pow_right (by decide) (by omega)
  omega
theorem p_S_touched {K : Nat → Int64} {B : Nat → Int32} {t b : Nat} {key : Int64} {post : Int32 → (Nat → Int32) → Prop} (ht : t ≤ 6) (ht1 : 1 ≤ t) (hb : 1 ≤ b) (hb2 : b ≤ 1024) (h : ∀ B', post (nI (dc (fS K t key b) (t + 8))) B') : wp_S_touched K B (nI t) key (nI b) post := by
  have hp := n_p6 ht
  have hg := sg_lt K t key
  have hfs : ∀ j, j < t + 8 → fS K t key b j < 2 ^ 31 := by
    intro j hj
    unfold fS
    split
    · rename_i q
      have hn := nd_lt (K := K) (key := key) (show t - 1 - j < t by omega)
      have h1 := (pit_plo t (by omega) _ (by omega) hn.1 hn.2).2
      have h2 := Nat.div_le_self (pit 8 (nd K t key (t - 1 - j)) t) b
      omega
    · have h2 := Nat.div_le_self (2 ^ t + sg K t key * 8 + (j - t)) b
      omega
  have cells : ∀ k i B, i + k = 8 → Nb (fS K t key b) (t + i) B → wp_S_touched_L84 K (nI t) (nI b) (nI (2 ^ t + sg K t key * 8)) post (k + 1) (nI (dc (fS K t key b) (t + i))) (nI i) B := by
    intro k
    induction k with
    | zero =>
      intro i B e hB
      obtain rfl : i = 8 := by omega
      rw [wp_S_touched_L84]
      exact ⟨fun _ => h B, fun c => absurd (nI_le (a := 8) (b := 8) (Nat.le_refl _) (by decide)) c⟩
    | succ k ih =>
      intro i B e hB
      rw [wp_S_touched_L84]
      refine ⟨fun c => absurd c (nI_ge (b := 8) (by omega) (by omega)), fun _ => ⟨nI_ne0 hb (by omega), ?_⟩⟩
      rw [nI_add, pk_div (by omega) hb (by omega), nI_1]
      have ef : (2 ^ t + sg K t key * 8 + i) / b = fS K t key b (t + i) := by
        unfold fS
        rw [if_neg (by omega), Nat.add_sub_cancel_left]
      rw [ef]
      exact p_S_noteBlock (by omega) (fun j hj => hfs j (by omega)) hB (fun B' hB' => ih (i + 1) B' (by omega) hB')
  have nodes : ∀ k j B, j + k = t → Nb (fS K t key b) j B → wp_S_touched_L35 K (nI t) (nI b) (nI (sg K t key)) post (k + 1) (nI (dc (fS K t key b) j)) (nI (nodeAt K t key j)) B := by
    intro k
    induction k with
    | zero =>
      intro j B e hB
      obtain rfl : j = t := by omega
      rw [wp_S_touched_L35]
      have e0 : nodeAt K j key j = 0 := by unfold nodeAt; rw [if_neg (by omega)]
      rw [e0]
      refine ⟨fun _ => ?_, fun c => absurd (by decide) c⟩
      refine p_S_segments ht ?_
      rw [n_lit8, pk_mul, nI_add]
      exact ⟨9, cells 8 0 B rfl hB⟩
    | succ k ih =>
      intro j B e hB
      rw [wp_S_touched_L35]
      have hn := nd_lt (K := K) (key := key) (show t - 1 - j < t by omega)
      have en : nodeAt K t key j = nd K t key (t - 1 - j) := by unfold nodeAt; rw [if_pos (by omega)]
      have ed : nI (nodeAt K t key j) / 2 = nI (nodeAt K t key (j + 1)) := by
        rw [n_lit2, pk_div (by rw [en]; omega) (by decide) (by decide), nodeAt_s (by omega)]
      rw [ed]
      have hpi := (pit_plo t (by omega) _ (by omega) hn.1 hn.2).2
      refine ⟨fun c => absurd c (nI_nlt (b := 1) (by rw [en]; omega) (by rw [en]; omega)), fun _ => ?_⟩
      rw [en]
      refine p_S_pit8 ht hn.1 hn.2 ⟨nI_ne0 hb (by omega), ?_⟩
      rw [pk_div (by omega) hb (by omega)]
      have ef : pit 8 (nd K t key (t - 1 - j)) t / b = fS K t key b j := by
        unfold fS
        rw [if_pos (by omega)]
      rw [ef]
      exact p_S_noteBlock (by omega) (fun i hi => hfs i (by omega)) hB (fun B' hB' => ih (j + 1) B' (by omega) hB')
  unfold wp_S_touched
  refine ⟨fun c => absurd c (nI_nlt (b := 1) (by omega) (by omega)), fun _ => ⟨fun _ => ?_, fun c => absurd (nI_le (b := 1024) (by omega) (by decide)) c⟩⟩
  refine p_S_seek ht ?_
  refine p_S_segments ht ?_
  rw [nI_add, n_lit2, pk_div (by omega) (by decide) (by decide)]
  have e0 : (2 ^ t + sg K t key) / 2 = nodeAt K t key 0 := by
    have h9 := (nd_in K t key t).1
    have e9 : 2 ^ t + sg K t key = nd K t key t := by unfold sg; omega
    obtain ⟨r, rfl⟩ : ∃ r, t = r + 1 := ⟨t - 1, by omega⟩
    unfold nodeAt
    rw [e9, if_pos (by omega), nd_half]
    rfl
  rw [e0]
  exact ⟨t + 1, nodes t 0 B (by omega) ⟨fun i hi => absurd hi (by rw [dc]; omega), fun j hj => absurd hj (by omega)⟩⟩
/-- the reference's order: the cells, then the nodes from above -/
def fRf (K : Nat → Int64) (t : Nat) (key : Int64) (b : Nat) (j : Nat) : Nat := if j < 8 then (2 ^ t + (8 * sg K t key + j)) / b else pit 8 (nd K t key (j - 8)) t / b
def fg (x : Bool) : Int32 := if x = true then 1 else 0
theorem p_M_touched {K : Nat → Int64} {F : Nat → Int32} {J : Nat → Int64} {t b : Nat} {key : Int64} {post : Int32 → Prop} (hR : Rm K F J) (ht : t ≤ 6) (hb : 1 ≤ b) (hb2 : b ≤ 1024) (h : post (nI (bc (fRf K t key b) (8 + t) ((9 * 2 ^ t + b - 1) / b)))) : wp_M_touched (nI (8 * 2 ^ t)) F J key (nI b) post := by
  have hp := n_p6 ht
  have hpp := n_pp t
  have hg := sg_lt K t key
  have hN : (9 * 2 ^ t + b - 1) / b ≤ 9 * 2 ^ t := by
    rw [Nat.div_le_iff_le_mul_add_pred hb]
    have : 9 * 2 ^ t ≤ b * (9 * 2 ^ t) := Nat.le_mul_of_pos_left _ hb
    omega
  have hNlt : ∀ v, v < (9 * 2 ^ t + b - 1) / b → v * b < 9 * 2 ^ t := by
    intro v hv
    have h1 : v + 1 ≤ (9 * 2 ^ t + b - 1) / b := hv
    rw [Nat.le_div_iff_mul_le hb, Nat.add_mul, Nat.one_mul] at h1
    omega
  have hNge : 9 * 2 ^ t ≤ (9 * 2 ^ t + b - 1) / b * b := by
    have h1 := Nat.div_add_mod (9 * 2 ^ t + b - 1) b
    have h2 := Nat.mod_lt (9 * 2 ^ t + b - 1) hb
    rw [Nat.mul_comm] at h1
    omega
  generalize hNN : (9 * 2 ^ t + b - 1) / b = N at *
  have outer : ∀ k v, v + k = N → wp_M_touched_L38 (nI (8 * 2 ^ t)) F J key (nI b) (nI (9 * 2 ^ t)) (nI (sg K t key)) post (k + 1) (nI (bc (fRf K t key b) (8 + t) v)) (nI v) := by
    intro k
    induction k with
    | zero =>
      intro v e
      obtain rfl : v = N := by omega
      rw [wp_M_touched_L38, pk_mul]
      have hm : v * b < 2 ^ 31 := by
        have : v * b ≤ (9 * 2 ^ t) * 1024 := Nat.mul_le_mul hN hb2
        omega
      exact ⟨fun _ => h, fun c => absurd (nI_le hNge hm) c⟩
    | succ k ih =>
      intro v e
      have hv := hNlt v (by omega)
      rw [wp_M_touched_L38, pk_mul]
      refine ⟨fun c => absurd c (nI_ge hv (by omega)), fun _ => ?_⟩
      have fin := ih (v + 1) (by omega)
      rw [bc_s] at fin
      have nodes : ∀ r d, d + r = t → wp_M_touched_L105 (fun z0 z1 => wp_M_touched_L38 (nI (8 * 2 ^ t)) F J key (nI b) (nI (9 * 2 ^ t)) (nI (sg K t key)) post (k + 1) z0 z1) (nI (8 * 2 ^ t)) F J key (nI b) (nI (9 * 2 ^ t)) (nI (sg K t key)) (nI (bc (fRf K t key b) (8 + t) v)) (nI v) post (r + 1) (fg (hit (fRf K t key b) v (8 + d))) (nI (nd K t key d)) := by
        intro r
        induction r with
        | zero =>
          intro d e2
          obtain rfl : d = t := by omega
          have hn := nd_in K d key d
          rw [wp_M_touched_L105]
          refine p_M_segments ht ⟨fun _ => ?_, fun c => absurd (nI_le hn.1 (by rw [n_p1] at hn; omega)) c⟩
          rw [nI_1, nI_1]
          by_cases c : hit (fRf K d key b) v (8 + d) = true
          · rw [if_pos c] at fin
            rw [fg, if_pos c]
            exact ⟨fun q => absurd q (by decide), fun _ => fin⟩
          · rw [if_neg c] at fin
            rw [fg, if_neg c]
            exact ⟨fun _ => fin, fun q => absurd rfl q⟩
        | succ r ihr =>
          intro d e2
          have hn := nd_in K t key d
          have hnl := nd_lt (K := K) (key := key) (show d < t by omega)
          have hi := ihr (d + 1) (by omega)
          rw [nd_s, show 8 + (d + 1) = (8 + d) + 1 from rfl, hit] at hi
          have ef : fRf K t key b (8 + d) = pit 8 (nd K t key d) t / b := by
            unfold fRf
            rw [if_neg (by omega), Nat.add_sub_cancel_left]
          rw [ef] at hi
          have hpi := (pit_plo t (by omega) _ (by omega) hnl.1 hnl.2).2
          rw [wp_M_touched_L105]
          refine p_M_segments ht ⟨fun c => absurd c (nI_ge hnl.2 (by omega)), fun _ => ?_⟩
          by_cases c : hit (fRf K t key b) v (8 + d) = true
          · rw [c, Bool.true_or] at hi
            rw [fg, if_pos c]
            refine ⟨fun q => absurd q (by decide), fun _ => ?_⟩
            exact p_M_step hR ht (by omega) hn.1 hn.2 hi
          · have c' : hit (fRf K t key b) v (8 + d) = false := by simpa using c
            rw [c', Bool.false_or] at hi
            rw [fg, if_neg c]
            refine ⟨fun _ => ?_, fun q => absurd rfl q⟩
            refine p_M_placeOf ht hnl.1 hnl.2 ⟨nI_ne0 hb (by omega), ?_⟩
            rw [pk_div (by omega) hb (by omega)]
            have hdl := Nat.div_le_self (pit 8 (nd K t key d) t) b
            rw [nI_eq (by omega) (by omega)]
            refine ⟨fun q => ?_, fun q => ?_⟩
            · have : (pit 8 (nd K t key d) t / b == v) = true := by rw [beq_iff_eq]; exact q
              rw [this] at hi
              exact p_M_step hR ht (by omega) hn.1 hn.2 hi
            · have : (pit 8 (nd K t key d) t / b == v) = false := by simpa using q
              rw [this] at hi
              exact p_M_step hR ht (by omega) hn.1 hn.2 hi
      have cells : ∀ r i, i + r = 8 → wp_M_touched_L57 (fun z0 z1 => wp_M_touched_L38 (nI (8 * 2 ^ t)) F J key (nI b) (nI (9 * 2 ^ t)) (nI (sg K t key)) post (k + 1) z0 z1) (nI (8 * 2 ^ t)) F J key (nI b) (nI (9 * 2 ^ t)) (nI (sg K t key)) (nI (bc (fRf K t key b) (8 + t) v)) (nI v) post (r + 1) (fg (hit (fRf K t key b) v i)) (nI (8 * sg K t key + i)) := by
        intro r
        induction r with
        | zero =>
          intro i e2
          obtain rfl : i = 8 := by omega
          rw [wp_M_touched_L57, n_lit8, pk_mul, nI_add]
          refine ⟨fun _ => ⟨t + 1, ?_⟩, fun c => absurd (nI_le (Nat.le_refl _) (by omega)) c⟩
          exact nodes t 0 (by omega)
        | succ r ihr =>
          intro i e2
          have hi := ihr (i + 1) (by omega)
          rw [hit] at hi
          have ef : fRf K t key b i = (2 ^ t + (8 * sg K t key + i)) / b := by
            unfold fRf
            rw [if_pos (by omega)]
          rw [ef] at hi
          have hdl := Nat.div_le_self (2 ^ t + (8 * sg K t key + i)) b
          rw [wp_M_touched_L57, n_lit8, pk_mul, nI_add, nI_1]
          refine ⟨fun c => absurd c (nI_ge (by omega) (by omega)), fun _ => ?_⟩
          by_cases c : hit (fRf K t key b) v i = true
          · rw [c, Bool.true_or] at hi
            rw [fg, if_pos c]
            exact ⟨fun q => absurd q (by decide), fun _ => hi⟩
          · have c' : hit (fRf K t key b) v i = false := by simpa using c
            rw [c', Bool.false_or] at hi
            rw [fg, if_neg c]
            refine ⟨fun _ => ?_, fun q => absurd rfl q⟩
            refine p_M_segments ht ⟨nI_ne0 hb (by omega), ?_⟩
            rw [nI_add, pk_div (by omega) hb (by omega), nI_eq (by omega) (by omega)]
            refine ⟨fun q => ?_, fun q => ?_⟩
            · have : ((2 ^ t + (8 * sg K t key + i)) / b == v) = true := by rw [beq_iff_eq]; exact q
              rw [this] at hi
              exact hi
            · have : ((2 ^ t + (8 * sg K t key + i)) / b == v) = false := by simpa using q
              rw [this] at hi
              exact hi
      rw [n_lit8, pk_mul]
      exact ⟨9, cells 8 0 rfl⟩
  unfold wp_M_touched
  refine ⟨fun c => absurd c (nI_nlt (b := 1) (by omega) (by omega)), fun _ => ⟨fun _ => ?_, fun c => absurd (nI_le (b := 1024) (by omega) (by decide)) c⟩⟩
  refine p_M_segments ht ?_
  refine p_M_seek hR ht ?_
  rw [nI_add, show 8 * 2 ^ t + 2 ^ t = 9 * 2 ^ t by omega]
  exact ⟨N + 1, outer N 0 (by omega)⟩
theorem touched_eq {K : Nat → Int64} {t b : Nat} {key : Int64} (ht : t ≤ 6) (hb : 1 ≤ b) : bc (fRf K t key b) (8 + t) ((9 * 2 ^ t + b - 1) / b) = dc (fS K t key b) (t + 8) := by
  have hp := n_p6 ht
  have hg := sg_lt K t key
  have eq : ∀ v, hit (fS K t key b) v (t + 8) = hit (fRf K t key b) v (8 + t) := by
    intro v
    rw [Bool.eq_iff_iff, hit_iff, hit_iff]
    constructor
    · rintro ⟨j, hj, e⟩
      by_cases c : j < t
      · refine ⟨8 + (t - 1 - j), by omega, ?_⟩
        rw [← e]
        unfold fRf fS
        rw [if_neg (by omega), if_pos c, Nat.add_sub_cancel_left]
      · refine ⟨j - t, by omega, ?_⟩
        rw [← e]
        unfold fRf fS
        rw [if_pos (by omega), if_neg c, show 2 ^ t + (8 * sg K t key + (j - t)) = 2 ^ t + sg K t key * 8 + (j - t) by omega]
    · rintro ⟨j, hj, e⟩
      by_cases c : j < 8
      · refine ⟨t + j, by omega, ?_⟩
        rw [← e]
        unfold fRf fS
        rw [if_pos c, if_neg (by omega), Nat.add_sub_cancel_left, show 2 ^ t + (8 * sg K t key + j) = 2 ^ t + sg K t key * 8 + j by omega]
      · refine ⟨t - 1 - (j - 8), by omega, ?_⟩
        rw [← e]
        unfold fRf fS
        rw [if_neg c, if_pos (by omega), show t - 1 - (t - 1 - (j - 8)) = j - 8 by omega]
  rw [← bc_congr eq]
  refine bc_dc _ _ _ (fun j hj => ?_)
  have main : ∀ a, a < 9 * 2 ^ t → a / b < (9 * 2 ^ t + b - 1) / b := by
    intro a ha
    show a / b + 1 ≤ _
    rw [Nat.le_div_iff_mul_le hb, Nat.add_mul, Nat.one_mul]
    have := Nat.div_mul_le_self a b
    omega
  unfold fS
  split
  · have hn := nd_lt (K := K) (key := key) (show t - 1 - j < t by omega)
    have h2 : 2 ≤ 2 ^ t := by
      have : 2 ^ 1 ≤ 2 ^ t := Nat.pow_le_pow_right (by decide) (by omega)
      exact this
    have h1 := pit_lt t (by omega) _ (by omega) hn.1 hn.2
    exact main _ (by omega)
  · exact main _ (by omega)
