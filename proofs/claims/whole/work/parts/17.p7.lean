/-! Windows of the store: heights, packing, joining, spreading. -/
def wf (x h : Nat) : Nat := x / 2 ^ h * (8 * 2 ^ h)
theorem wf_in {t x h : Nat} (ht : t ≤ 6) (hh : h ≤ t) (hx : x < 2 ^ t) : wf x h + 8 * 2 ^ h ≤ 8 * 2 ^ t ∧ wf x h ≤ 8 * x ∧ 8 * x + 8 ≤ wf x h + 8 * 2 ^ h := by
  have hp := n_pp h
  have e : 2 ^ t = 2 ^ (t - h) * 2 ^ h := by rw [← Nat.pow_add, show t - h + h = t by omega]
  have h1 : x / 2 ^ h < 2 ^ (t - h) := by
    rw [Nat.div_lt_iff_lt_mul hp, ← e]
    exact hx
  have h2 : (x / 2 ^ h + 1) * (8 * 2 ^ h) ≤ 2 ^ (t - h) * (8 * 2 ^ h) := Nat.mul_le_mul_right _ h1
  have e2 : 2 ^ (t - h) * (8 * 2 ^ h) = 8 * 2 ^ t := by rw [e, ← Nat.mul_assoc, ← Nat.mul_assoc, Nat.mul_comm _ 8]
  have h3 := Nat.div_add_mod x (2 ^ h)
  have h4 := Nat.mod_lt x hp
  have e3 : x / 2 ^ h * (8 * 2 ^ h) = 8 * (2 ^ h * (x / 2 ^ h)) := by rw [← Nat.mul_assoc, Nat.mul_comm _ 8, Nat.mul_assoc, Nat.mul_comm (x / 2 ^ h)]
  rw [e2, Nat.add_mul, Nat.one_mul] at h2
  unfold wf
  rw [e3] at h2 ⊢
  generalize 2 ^ h * (x / 2 ^ h) = y at *
  omega
theorem p_S_firstCell {x h : Nat} {post : Int32 → Prop} (hx : x < 64) (hh : h ≤ 6) (hp : post (nI (wf x h))) : wp_S_firstCell (nI x) (nI h) post := by
  unfold wp_S_firstCell
  refine p_S_windowCells hh ?_
  rw [n_shr (by omega) (by omega), pk_mul]
  exact hp
theorem p_S_keysInWindow {K : Nat → Int64} {t x h : Nat} {post : Int32 → Prop} (ht : t ≤ 6) (hh : h ≤ t) (hx : x < 2 ^ t) (hp : post (nI (cnt K (wf x h) (8 * 2 ^ h)))) : wp_S_keysInWindow K (nI x) (nI h) post := by
  have h6 := n_p6 ht
  have hw := wf_in ht hh hx
  unfold wp_S_keysInWindow
  refine p_S_firstCell (by omega) (by omega) ?_
  refine p_S_windowCells (by omega) ?_
  exact p_S_keysAmong (by omega) hp
def mostF (t h : Nat) : Nat := 8 * 2 ^ h * (4 * t - h) / (4 * t)
def fewF (t h : Nat) : Nat := (8 * 2 ^ h * (t + h) + 8 * t - 1) / (8 * t)
theorem n_mf {t h : Nat} (ht : t ≤ 6) (hh : h ≤ t) (ht1 : 1 ≤ t) : 8 * 2 ^ h * (4 * t - h) < 2 ^ 20 ∧ 8 * 2 ^ h * (t + h) < 2 ^ 20 ∧ mostF t h ≤ 8 * 2 ^ h := by
  have hp := n_p6 (show h ≤ 6 by omega)
  have a : 8 * 2 ^ h * (4 * t - h) ≤ 512 * 24 := Nat.mul_le_mul (by omega) (by omega)
  have b : 8 * 2 ^ h * (t + h) ≤ 512 * 12 := Nat.mul_le_mul (by omega) (by omega)
  refine ⟨by omega, by omega, ?_⟩
  unfold mostF
  have c : 8 * 2 ^ h * (4 * t - h) ≤ 8 * 2 ^ h * (4 * t) := Nat.mul_le_mul_left _ (by omega)
  exact Nat.le_trans (Nat.div_le_div_right c) (by rw [Nat.mul_div_cancel _ (by omega)]; exact Nat.le_refl _)
theorem p_S_mostKeys {t h : Nat} {post : Int32 → Prop} (ht : t ≤ 6) (hh : h ≤ t) (ht1 : 1 ≤ t) (hp : post (nI (mostF t h))) : wp_S_mostKeys (nI t) (nI h) post := by
  have hm := n_mf ht hh ht1
  unfold wp_S_mostKeys
  refine p_S_windowCells (by omega) ?_
  rw [n_lit4, pk_mul, pk_sub (by omega), pk_mul, pk_div (by omega) (by omega) (by omega)]
  exact ⟨nI_ne0 (by omega) (by omega), hp⟩
theorem p_S_fewestKeys {t h : Nat} {post : Int32 → Prop} (ht : t ≤ 6) (hh : h ≤ t) (ht1 : 1 ≤ t) (hp : post (nI (fewF t h))) : wp_S_fewestKeys (nI t) (nI h) post := by
  have hm := n_mf ht hh ht1
  unfold wp_S_fewestKeys
  refine p_S_windowCells (by omega) ?_
  rw [n_lit8, pk_mul, nI_add, pk_mul, nI_add, n_lit1, pk_sub (by omega), pk_div (by omega) (by omega) (by omega)]
  exact ⟨nI_ne0 (by omega) (by omega), hp⟩
/-- a window of this height has room for one more, has enough -/
def okR (K : Nat → Int64) (t x h : Nat) : Prop := cnt K (wf x h) (8 * 2 ^ h) + 1 ≤ mostF t h
def okE (K : Nat → Int64) (t x h : Nat) : Prop := fewF t h ≤ cnt K (wf x h) (8 * 2 ^ h)
theorem cnt_lt {K : Nat → Int64} {a h : Nat} (hh : h ≤ 6) : cnt K a (8 * 2 ^ h) ≤ 512 := by
  have hp := n_p6 hh
  have := cnt_le K a (8 * 2 ^ h)
  omega
theorem fewF_lt {t h : Nat} (ht : t ≤ 6) (hh : h ≤ t) (ht1 : 1 ≤ t) : fewF t h < 2 ^ 21 := by
  have hm := n_mf ht hh ht1
  unfold fewF
  have := Nat.div_le_self (8 * 2 ^ h * (t + h) + 8 * t - 1) (8 * t)
  omega
theorem p_S_heightWithRoom {K : Nat → Int64} {t x : Nat} {post : Int32 → Prop} (ht : t ≤ 6) (ht1 : 1 ≤ t) (hx : x < 2 ^ t)
    (h1 : ∀ h, h ≤ t → okR K t x h → (∀ j, j < h → ¬ okR K t x j) → post (nI h)) (h0 : (∀ h, h ≤ t → ¬ okR K t x h) → post (-1)) : wp_S_heightWithRoom K (nI t) (nI x) post := by
  have key : ∀ k h, h + k = t + 1 → (∀ j, j < h → ¬ okR K t x j) → wp_S_heightWithRoom_L2 K (nI t) (nI x) post (k + 1) (nI h) := by
    intro k
    induction k with
    | zero =>
      intro h e hn
      rw [wp_S_heightWithRoom_L2]
      exact ⟨fun _ => h0 (fun j hj => hn j (by omega)), fun c => absurd (nI_lt (by omega) (by omega)) c⟩
    | succ k ih =>
      intro h e hn
      have hm := n_mf ht (show h ≤ t by omega) ht1
      have hp := n_p6 (show h ≤ 6 by omega)
      have hc := cnt_lt (K := K) (a := wf x h) (show h ≤ 6 by omega)
      rw [wp_S_heightWithRoom_L2]
      refine ⟨fun c => absurd c (nI_nlt (by omega) (by omega)), fun _ => ?_⟩
      refine p_S_keysInWindow ht (by omega) hx ?_
      refine p_S_mostKeys ht (by omega) ht1 ?_
      rw [nI_1, nI_1]
      refine pk_lt (mostF t h) (cnt K (wf x h) (8 * 2 ^ h) + 1) (fun q => ?_) (fun q => ?_) rfl rfl (by omega) (by omega)
      · refine ih (h + 1) (by omega) (fun j hj => ?_)
        rcases Nat.lt_or_ge j h with z | z
        · exact hn j z
        · obtain rfl : j = h := by omega
          unfold okR
          omega
      · exact h1 h (by omega) q hn
  unfold wp_S_heightWithRoom
  exact ⟨_, key (t + 1) 0 (by omega) (fun j hj => absurd hj (by omega))⟩
theorem p_S_heightWithEnough {K : Nat → Int64} {t x : Nat} {post : Int32 → Prop} (ht : t ≤ 6) (ht1 : 1 ≤ t) (hx : x < 2 ^ t)
    (h1 : ∀ h, h ≤ t → okE K t x h → (∀ j, j < h → ¬ okE K t x j) → post (nI h)) (h0 : (∀ h, h ≤ t → ¬ okE K t x h) → post (-1)) : wp_S_heightWithEnough K (nI t) (nI x) post := by
  have key : ∀ k h, h + k = t + 1 → (∀ j, j < h → ¬ okE K t x j) → wp_S_heightWithEnough_L2 K (nI t) (nI x) post (k + 1) (nI h) := by
    intro k
    induction k with
    | zero =>
      intro h e hn
      rw [wp_S_heightWithEnough_L2]
      exact ⟨fun _ => h0 (fun j hj => hn j (by omega)), fun c => absurd (nI_lt (by omega) (by omega)) c⟩
    | succ k ih =>
      intro h e hn
      have hm := fewF_lt ht (show h ≤ t by omega) ht1
      have hp := n_p6 (show h ≤ 6 by omega)
      have hc := cnt_lt (K := K) (a := wf x h) (show h ≤ 6 by omega)
      rw [wp_S_heightWithEnough_L2]
      refine ⟨fun c => absurd c (nI_nlt (by omega) (by omega)), fun _ => ?_⟩
      refine p_S_keysInWindow ht (by omega) hx ?_
      refine p_S_fewestKeys ht (by omega) ht1 ?_
      rw [nI_1]
      refine pk_lt (cnt K (wf x h) (8 * 2 ^ h)) (fewF t h) (fun q => ?_) (fun q => ?_) rfl rfl (by omega) (by omega)
      · refine ih (h + 1) (by omega) (fun j hj => ?_)
        rcases Nat.lt_or_ge j h with z | z
        · exact hn j z
        · obtain rfl : j = h := by omega
          unfold okE
          omega
      · exact h1 h (by omega) q hn
  unfold wp_S_heightWithEnough
  exact ⟨_, key (t + 1) 0 (by omega) (fun j hj => absurd hj (by omega))⟩
theorem p_S_clear {K V : Nat → Int64} {i : Nat} {post : (Nat → Int64) → (Nat → Int64) → Prop} (hi : i < 512) (h : post (vp_updL K i NOK) (vp_updL V i 0)) : wp_S_clear K V (nI i) post := by
  unfold wp_S_clear
  rw [nI_clamp (by omega)]
  exact ⟨vp_in_nI hi (by decide), h⟩
theorem p_S_shift {K V : Nat → Int64} {i j : Nat} {post : (Nat → Int64) → (Nat → Int64) → Prop} (hi : i < 512) (hj : j < 512) (h1 : i = j → post K V)
    (h2 : i ≠ j → post (vp_updL (vp_updL K j (K i)) i NOK) (vp_updL (vp_updL V j (V i)) i 0)) : wp_S_shift K V (nI i) (nI j) post := by
  unfold wp_S_shift
  rw [nI_clamp (show i < 2 ^ 31 by omega), nI_clamp (show j < 2 ^ 31 by omega), nI_eq (by omega) (by omega)]
  exact ⟨h1, fun c => ⟨vp_in_nI hi (by decide), vp_in_nI hj (by decide), p_S_clear hi (h2 c)⟩⟩
/-- K', V': the first i cells of the window at a are packed -/
def Pk (K V : Nat → Int64) (a i : Nat) (K' V' : Nat → Int64) : Prop :=
  (∀ j, j < i → K (a + j) ≠ NOK → K' (a + cnt K a j) = K (a + j) ∧ V' (a + cnt K a j) = V (a + j)) ∧ (∀ p, cnt K a i ≤ p → p < i → K' (a + p) = NOK) ∧ (∀ q, q < a ∨ a + i ≤ q → K' q = K q ∧ V' q = V q)
theorem cnt_full {K : Nat → Int64} {a j i : Nat} (h : K (a + j) ≠ NOK) (hj : j < i) : cnt K a j < cnt K a i := by
  obtain ⟨r, rfl⟩ : ∃ r, i = j + 1 + r := ⟨i - (j + 1), by omega⟩
  have h1 := cnt_mono K a (j + 1) r
  rw [cnt_s, if_neg h] at h1
  omega
theorem pk_none {K V : Nat → Int64} {a i : Nat} {K' V' : Nat → Int64} (h : Pk K V a i K' V') (hn : K (a + i) = NOK) : Pk K V a (i + 1) K' V' := by
  obtain ⟨h1, h2, h3⟩ := h
  refine ⟨fun j hj hf => ?_, fun p hp hp2 => ?_, fun q hq => h3 q (by omega)⟩
  · have : j ≠ i := fun e => hf (by rw [e]; exact hn)
    exact h1 j (by omega) hf
  · rw [cnt_s, if_pos hn] at hp
    rcases Nat.lt_or_ge p i with z | z
    · exact h2 p hp z
    · obtain rfl : p = i := by omega
      rw [(h3 (a + p) (by omega)).1]
      exact hn
theorem pk_same {K V : Nat → Int64} {a i : Nat} {K' V' : Nat → Int64} (h : Pk K V a i K' V') (hn : K (a + i) ≠ NOK) (e : i = cnt K a i) : Pk K V a (i + 1) K' V' := by
  obtain ⟨h1, h2, h3⟩ := h
  refine ⟨fun j hj hf => ?_, fun p hp hp2 => ?_, fun q hq => h3 q (by omega)⟩
  · rcases Nat.lt_or_ge j i with z | z
    · exact h1 j z hf
    · obtain rfl : j = i := by omega
      rw [← e]
      exact h3 _ (by omega)
  · rw [cnt_s, if_neg hn] at hp
    omega
theorem pk_move {K V : Nat → Int64} {a i : Nat} {K' V' : Nat → Int64} (h : Pk K V a i K' V') (hn : K (a + i) ≠ NOK) (e : i ≠ cnt K a i) :
    Pk K V a (i + 1) (vp_updL (vp_updL K' (a + cnt K a i) (K' (a + i))) (a + i) NOK) (vp_updL (vp_updL V' (a + cnt K a i) (V' (a + i))) (a + i) 0) := by
  obtain ⟨h1, h2, h3⟩ := h
  have hl := cnt_le K a i
  obtain ⟨e1, e2⟩ := h3 (a + i) (by omega)
  refine ⟨fun j hj hf => ?_, fun p hp hp2 => ?_, fun q hq => ?_⟩
  · rcases Nat.lt_or_ge j i with z | z
    · have hc := cnt_full hf z
      rw [pk_uLn (by omega), pk_uLn (by omega), pk_uLn (by omega), pk_uLn (by omega)]
      exact h1 j z hf
    · obtain rfl : j = i := by omega
      rw [pk_uLn (by omega), pk_uLs, pk_uLn (by omega), pk_uLs, e1, e2]
      exact ⟨rfl, rfl⟩
  · rw [cnt_s, if_neg hn] at hp
    rcases Nat.lt_or_ge p i with z | z
    · rw [pk_uLn (by omega), pk_uLn (by omega)]
      exact h2 p (by omega) z
    · obtain rfl : p = i := by omega
      exact pk_uLs
  · rw [pk_uLn (by omega), pk_uLn (by omega), pk_uLn (by omega), pk_uLn (by omega)]
    exact h3 q (by omega)
theorem p_S_pack {K V : Nat → Int64} {a w : Nat} (hw : a + w ≤ 512) : ∃ K2 V2, Pk K V a w K2 V2 ∧ ∀ post : Int32 → (Nat → Int64) → (Nat → Int64) → Prop, post (nI (cnt K a w)) K2 V2 → wp_S_pack K V (nI a) (nI w) post := by
  have key : ∀ k i K' V', i + k = w → Pk K V a i K' V' → ∃ K2 V2, Pk K V a w K2 V2 ∧ ∀ post : Int32 → (Nat → Int64) → (Nat → Int64) → Prop, post (nI (cnt K a w)) K2 V2 → wp_S_pack_L5 (nI a) (nI w) post (k + 1) (nI (a + cnt K a i)) (nI (a + i)) K' V' := by
    intro k
    induction k with
    | zero =>
      intro i K' V' e hP
      obtain rfl : i = w := by omega
      refine ⟨K', V', hP, fun post h => ?_⟩
      rw [wp_S_pack_L5, nI_add, pk_sub (by omega), Nat.add_sub_cancel_left]
      exact ⟨fun _ => h, fun c => absurd (nI_le (Nat.le_refl _) (by omega)) c⟩
    | succ k ih =>
      intro i K' V' e hP
      have hl := cnt_le K a i
      have e1 := (hP.2.2 (a + i) (by omega)).1
      by_cases c : K (a + i) = NOK
      · obtain ⟨K2, V2, h1, h2⟩ := ih (i + 1) K' V' (by omega) (pk_none hP c)
        refine ⟨K2, V2, h1, fun post h => ?_⟩
        have this := h2 post h
        rw [cnt_s, if_pos c] at this
        rw [wp_S_pack_L5, nI_add, nI_clamp (by omega), nI_1, nI_1, e1]
        exact ⟨fun c => absurd c (nI_ge (by omega) (by omega)), fun _ => ⟨vp_in_nI (by omega) (by decide), fun _ => this, fun z => absurd c z⟩⟩
      · by_cases q : i = cnt K a i
        · obtain ⟨K2, V2, h1, h2⟩ := ih (i + 1) K' V' (by omega) (pk_same hP c q)
          refine ⟨K2, V2, h1, fun post h => ?_⟩
          have this := h2 post h
          rw [cnt_s, if_neg c] at this
          rw [wp_S_pack_L5, nI_add, nI_clamp (by omega), nI_1, nI_1, e1]
          refine ⟨fun c => absurd c (nI_ge (by omega) (by omega)), fun _ => ⟨vp_in_nI (by omega) (by decide), fun z => absurd z c, fun _ => ?_⟩⟩
          exact p_S_shift (by omega) (by omega) (fun _ => this) (fun z => absurd (by omega) z)
        · obtain ⟨K2, V2, h1, h2⟩ := ih (i + 1) _ _ (by omega) (pk_move hP c q)
          refine ⟨K2, V2, h1, fun post h => ?_⟩
          have this := h2 post h
          rw [cnt_s, if_neg c] at this
          rw [wp_S_pack_L5, nI_add, nI_clamp (by omega), nI_1, nI_1, e1]
          refine ⟨fun c => absurd c (nI_ge (by omega) (by omega)), fun _ => ⟨vp_in_nI (by omega) (by decide), fun z => absurd z c, fun _ => ?_⟩⟩
          exact p_S_shift (by omega) (by omega) (fun z => absurd (by omega) q) (fun _ => this)
  unfold wp_S_pack
  obtain ⟨K2, V2, h1, h2⟩ := key w 0 K V (by omega) ⟨fun j hj => absurd hj (by omega), fun p h1 h2 => absurd h2 (by omega), fun q _ => ⟨rfl, rfl⟩⟩
  exact ⟨K2, V2, h1, fun post h => ⟨_, h2 post h⟩⟩
/-- where a key goes among the first n of a row; the row with it -/
def ip (f : Nat → Int64) (key : Int64) : Nat → Nat
  | 0 => 0
  | n + 1 => if f n ≤ key then n + 1 else ip f key n
theorem ip_s (f : Nat → Int64) (key : Int64) (n : Nat) : ip f key (n + 1) = if f n ≤ key then n + 1 else ip f key n := rfl
theorem ip_le (f : Nat → Int64) (key : Int64) : ∀ n, ip f key n ≤ n
  | 0 => Nat.le_refl 0
  | n + 1 => by
    have h := ip_le f key n
    rw [ip_s]
    split <;> omega
def kI (f : Nat → Int64) (key : Int64) (p j : Nat) : Int64 := if j < p then f j else if j = p then key else f (j - 1)
theorem p_S_insertPacked {K V : Nat → Int64} {a n : Nat} {key v : Int64} (hw : a + n < 512) :
    ∃ K2 V2, (∀ j, j ≤ n → K2 (a + j) = kI (fun i => K (a + i)) key (ip (fun i => K (a + i)) key n) j ∧ V2 (a + j) = kI (fun i => V (a + i)) v (ip (fun i => K (a + i)) key n) j) ∧ (∀ q, q < a ∨ a + n < q → K2 q = K q ∧ V2 q = V q) ∧
      ∀ post : (Nat → Int64) → (Nat → Int64) → Prop, post K2 V2 → wp_S_insertPacked K V (nI a) (nI n) key v post := by
  have fin : ∀ c K' V', c ≤ n → ip (fun i => K (a + i)) key n = c → (∀ j, j < c → K' (a + j) = K (a + j) ∧ V' (a + j) = V (a + j)) → (∀ j, c ≤ j → j < n → K' (a + (j + 1)) = K (a + j) ∧ V' (a + (j + 1)) = V (a + j)) → (∀ q, q < a ∨ a + n < q → K' q = K q ∧ V' q = V q) →
      (∀ j, j ≤ n → vp_updL K' (a + c) key (a + j) = kI (fun i => K (a + i)) key (ip (fun i => K (a + i)) key n) j ∧ vp_updL V' (a + c) v (a + j) = kI (fun i => V (a + i)) v (ip (fun i => K (a + i)) key n) j) ∧ (∀ q, q < a ∨ a + n < q → vp_updL K' (a + c) key q = K q ∧ vp_updL V' (a + c) v q = V q) := by
    intro c K' V' hc hip h1 h2 h3
    refine ⟨fun j hj => ?_, fun q hq => ?_⟩
    · rw [hip]
      unfold kI
      rcases Nat.lt_trichotomy j c with q | q | q
      · rw [if_pos q, if_pos q, pk_uLn (by omega), pk_uLn (by omega)]
        exact h1 j q
      · rw [if_neg (show ¬ j < c by omega), if_pos q, if_neg (show ¬ j < c by omega), if_pos q, q, pk_uLs, pk_uLs]
        exact ⟨rfl, rfl⟩
      · rw [if_neg (by omega), if_neg (by omega), if_neg (by omega), if_neg (by omega), pk_uLn (by omega), pk_uLn (by omega)]
        have := h2 (j - 1) (by omega) (by omega)
        rw [show j - 1 + 1 = j by omega] at this
        exact this
    · rw [pk_uLn (by omega), pk_uLn (by omega)]
      exact h3 q hq
  have key2 : ∀ c K' V', c ≤ n → ip (fun i => K (a + i)) key n = ip (fun i => K (a + i)) key c → (∀ j, j < c → K' (a + j) = K (a + j) ∧ V' (a + j) = V (a + j)) → (∀ j, c ≤ j → j < n → K' (a + (j + 1)) = K (a + j) ∧ V' (a + (j + 1)) = V (a + j)) → (∀ q, q < a ∨ a + n < q → K' q = K q ∧ V' q = V q) →
      ∃ K2 V2, (∀ j, j ≤ n → K2 (a + j) = kI (fun i => K (a + i)) key (ip (fun i => K (a + i)) key n) j ∧ V2 (a + j) = kI (fun i => V (a + i)) v (ip (fun i => K (a + i)) key n) j) ∧ (∀ q, q < a ∨ a + n < q → K2 q = K q ∧ V2 q = V q) ∧
        ∀ post : (Nat → Int64) → (Nat → Int64) → Prop, post K2 V2 → wp_S_insertPacked_L5 (nI a) key v post (c + 1) (nI (a + c)) K' V' := by
    intro c
    induction c with
    | zero =>
      intro K' V' hc hip h1 h2 h3
      obtain ⟨f1, f2⟩ := fin 0 K' V' hc hip h1 h2 h3
      refine ⟨_, _, f1, f2, fun post h => ?_⟩
      rw [wp_S_insertPacked_L5, nI_clamp (show a + 0 < 2 ^ 31 by omega)]
      exact ⟨fun _ => ⟨vp_in_nI (by omega) (by decide), h⟩, fun q => absurd (nI_le (by omega) (by omega)) q⟩
    | succ c ih =>
      intro K' V' hc hip h1 h2 h3
      have e1 : nI (a + (c + 1)) - 1 = nI (a + c) := nI_pred (a + c)
      have e2 : nI (a + (c + 1)) + (-1) = nI (a + c) := pk_m1 (a + c)
      have e3 := (h1 c (by omega)).1
      rw [ip_s] at hip
      by_cases q : K (a + c) ≤ key
      · rw [if_pos q] at hip
        obtain ⟨f1, f2⟩ := fin (c + 1) K' V' hc hip h1 h2 h3
        refine ⟨_, _, f1, f2, fun post h => ?_⟩
        rw [wp_S_insertPacked_L5, e1, nI_clamp (show a + (c + 1) < 2 ^ 31 by omega), nI_clamp (show a + c < 2 ^ 31 by omega), e3]
        exact ⟨fun z => absurd z (nI_ge (by omega) (by omega)), fun _ => ⟨vp_in_nI (by omega) (by decide), fun _ => ⟨vp_in_nI (by omega) (by decide), h⟩, fun z => absurd q z⟩⟩
      · rw [if_neg q] at hip
        obtain ⟨K2, V2, f1, f2, f3⟩ := ih (vp_updL (vp_updL K' (a + (c + 1)) (K' (a + c))) (a + c) NOK) (vp_updL (vp_updL V' (a + (c + 1)) (V' (a + c))) (a + c) 0) (by omega) hip (fun j hj => by
            rw [pk_uLn (by omega), pk_uLn (by omega), pk_uLn (by omega), pk_uLn (by omega)]
            exact h1 j (by omega)) (fun j hj hj2 => by
            rcases Nat.lt_or_ge c j with z | z
            · rw [pk_uLn (by omega), pk_uLn (by omega), pk_uLn (by omega), pk_uLn (by omega)]
              exact h2 j (by omega) hj2
            · obtain rfl : j = c := by omega
              rw [pk_uLn (by omega), pk_uLs, pk_uLn (by omega), pk_uLs]
              exact h1 j (by omega)) (fun p hp => by
            rw [pk_uLn (by omega), pk_uLn (by omega), pk_uLn (by omega), pk_uLn (by omega)]
            exact h3 p hp)
        refine ⟨K2, V2, f1, f2, fun post h => ?_⟩
        rw [wp_S_insertPacked_L5, e1, e2, nI_clamp (show a + c < 2 ^ 31 by omega), e3]
        refine ⟨fun z => absurd z (nI_ge (by omega) (by omega)), fun _ => ⟨vp_in_nI (by omega) (by decide), fun z => absurd z q, fun _ => ?_⟩⟩
        exact p_S_shift (by omega) (by omega) (fun z => absurd z (by omega)) (fun _ => f3 post h)
  unfold wp_S_insertPacked
  obtain ⟨K2, V2, f1, f2, f3⟩ := key2 n K V (Nat.le_refl n) rfl (fun j _ => ⟨rfl, rfl⟩) (fun j h1 h2 => absurd h2 (by omega)) (fun q _ => ⟨rfl, rfl⟩)
  refine ⟨K2, V2, f1, f2, fun post h => ⟨n + 1, ?_⟩⟩
  rw [nI_add]
  exact f3 post h
/-- places of a spread row -/
theorem tj_ge {i w n : Nat} (hn : 0 < n) (hw : n ≤ w) : i ≤ i * w / n := by
  rw [Nat.le_div_iff_mul_le hn]
  exact Nat.mul_le_mul_left i hw
theorem tj_s {i w n : Nat} (hn : 0 < n) (hw : n ≤ w) : i * w / n < (i + 1) * w / n := by
  show i * w / n + 1 ≤ _
  rw [Nat.le_div_iff_mul_le hn, Nat.add_mul, Nat.one_mul, Nat.add_mul, Nat.one_mul]
  have := Nat.div_mul_le_self (i * w) n
  omega
theorem tj_lt {i j w n : Nat} (hn : 0 < n) (hw : n ≤ w) (h : i < j) : i * w / n < j * w / n := by
  obtain ⟨r, rfl⟩ : ∃ r, j = i + 1 + r := ⟨j - (i + 1), by omega⟩
  induction r with
  | zero => exact tj_s hn hw
  | succ r ih =>
    have h1 := ih (by omega)
    have h2 := tj_s (i := i + 1 + r) hn hw
    exact Nat.lt_trans h1 h2
theorem tj_in {i w n : Nat} (hn : 0 < n) (hw : n ≤ w) (h : i < n) : i * w / n < w := by
  rw [Nat.div_lt_iff_lt_mul hn, Nat.mul_comm w n]
  exact Nat.mul_lt_mul_of_pos_right h (by omega)
/-- a row f, g of n is spread over the w cells at a; elsewhere K0, V0 -/
def Ar (K0 V0 : Nat → Int64) (a w n : Nat) (f g K' V' : Nat → Int64) : Prop :=
  (∀ j, j < n → K' (a + j * w / n) = f j ∧ V' (a + j * w / n) = g j) ∧ (∀ p, p < w → (∀ j, j < n → p ≠ j * w / n) → K' (a + p) = NOK) ∧ (∀ q, q < a ∨ a + w ≤ q → K' q = K0 q ∧ V' q = V0 q)
theorem p_S_spreadPacked {K V f g : Nat → Int64} {lh : Int32} {mv : Int64} {a h n : Nat} (hh : h ≤ 6) (hw : a + 8 * 2 ^ h ≤ 512) (hn : n ≤ 8 * 2 ^ h)
    (hf : ∀ j, j < n → K (a + j) = f j ∧ V (a + j) = g j) (he : ∀ p, n ≤ p → p < 8 * 2 ^ h → K (a + p) = NOK) :
    ∃ K2 V2, Ar K V a (8 * 2 ^ h) n f g K2 V2 ∧ ∀ post : (Nat → Int64) → (Nat → Int64) → Int32 → Int64 → Prop, post K2 V2 (nI h) (mv + (nI n).toInt64) → wp_S_spreadPacked K V lh mv (nI a) (nI h) (nI n) post := by
  have hp := n_p6 hh
  generalize hww : 8 * 2 ^ h = w at *
  have key : ∀ i K' V', i ≤ n → (∀ j, j < i → K' (a + j) = f j ∧ V' (a + j) = g j) → (∀ j, i ≤ j → j < n → K' (a + j * w / n) = f j ∧ V' (a + j * w / n) = g j) → (∀ p, i ≤ p → p < w → (∀ j, i ≤ j → j < n → p ≠ j * w / n) → K' (a + p) = NOK) → (∀ q, q < a ∨ a + w ≤ q → K' q = K q ∧ V' q = V q) →
      ∃ K2 V2, Ar K V a w n f g K2 V2 ∧ ∀ post : (Nat → Int64) → (Nat → Int64) → Int32 → Int64 → Prop, post K2 V2 (nI h) (mv + (nI n).toInt64) → wp_S_spreadPacked_L5 (nI a) (nI h) (nI n) post (i + 1) (nI i + (-1)) K' V' lh mv := by
    intro i
    induction i with
    | zero =>
      intro K' V' hi h1 h2 h3 h4
      refine ⟨K', V', ⟨fun j hj => h2 j (by omega) hj, fun p hp2 hq => h3 p (by omega) hp2 (fun j _ hj => hq j hj), h4⟩, fun post hpost => ?_⟩
      rw [wp_S_spreadPacked_L5]
      exact ⟨fun _ => hpost, fun c => absurd (by decide) c⟩
    | succ i ih =>
      intro K' V' hi h1 h2 h3 h4
      have n0 : 0 < n := by omega
      have g1 := tj_ge (i := i) n0 hn
      have g2 := tj_in (i := i) n0 hn (by omega)
      have hiw : i * w ≤ 512 * 512 := Nat.mul_le_mul (by omega) (by omega)
      have enter : ∀ post : (Nat → Int64) → (Nat → Int64) → Int32 → Int64 → Prop, wp_S_shift K' V' (nI (a + i)) (nI (a + i * w / n)) (fun kS_4 vS_5 => wp_S_spreadPacked_L5 (nI a) (nI h) (nI n) post (i + 1) (nI i + (-1)) kS_4 vS_5 lh mv) → wp_S_spreadPacked_L5 (nI a) (nI h) (nI n) post (i + 1 + 1) (nI (i + 1) + (-1)) K' V' lh mv := by
        intro post hsh
        rw [wp_S_spreadPacked_L5, pk_m1]
        refine ⟨fun c => absurd c (nI_pos (by omega)), fun _ => ?_⟩
        refine p_S_windowCells hh ?_
        rw [hww]
        refine ⟨nI_ne0 n0 (by omega), ?_⟩
        rw [nI_add, pk_mul, pk_div (by omega) n0 (by omega), nI_add]
        exact hsh
      by_cases e : i = i * w / n
      · obtain ⟨K2, V2, f1, f2⟩ := ih K' V' (by omega) (fun j hj => h1 j (by omega)) (fun j hj hj2 => by
            rcases Nat.lt_or_ge i j with z | z
            · exact h2 j (by omega) hj2
            · obtain rfl : j = i := by omega
              rw [← e]
              exact h1 j (by omega)) (fun p hp1 hp2 hq => by
            have := hq i (by omega) (by omega)
            exact h3 p (by omega) hp2 (fun j hj hj2 => hq j (by omega) hj2)) h4
        refine ⟨K2, V2, f1, fun post hpost => enter post ?_⟩
        exact p_S_shift (by omega) (by omega) (fun _ => f2 post hpost) (fun z => absurd (by omega) z)
      · obtain ⟨K2, V2, f1, f2⟩ := ih (vp_updL (vp_updL K' (a + i * w / n) (K' (a + i))) (a + i) NOK) (vp_updL (vp_updL V' (a + i * w / n) (V' (a + i))) (a + i) 0) (by omega) (fun j hj => by
            rw [pk_uLn (by omega), pk_uLn (by omega), pk_uLn (by omega), pk_uLn (by omega)]
            exact h1 j (by omega)) (fun j hj hj2 => by
            rcases Nat.lt_or_ge i j with z | z
            · have g3 := tj_lt n0 hn z
              rw [pk_uLn (by omega), pk_uLn (by omega), pk_uLn (by omega), pk_uLn (by omega)]
              exact h2 j (by omega) hj2
            · obtain rfl : j = i := by omega
              rw [pk_uLn (by omega), pk_uLs, pk_uLn (by omega), pk_uLs]
              exact h1 j (by omega)) (fun p hp1 hp2 hq => by
            have g3 := hq i (by omega) (by omega)
            rcases Nat.lt_or_ge i p with z | z
            · rw [pk_uLn (by omega), pk_uLn (by omega)]
              exact h3 p (by omega) hp2 (fun j hj hj2 => hq j (by omega) hj2)
            · obtain rfl : p = i := by omega
              exact pk_uLs) (fun q hq => by
            rw [pk_uLn (by omega), pk_uLn (by omega), pk_uLn (by omega), pk_uLn (by omega)]
            exact h4 q hq)
        refine ⟨K2, V2, f1, fun post hpost => enter post ?_⟩
        exact p_S_shift (by omega) (by omega) (fun z => absurd (by omega) e) (fun _ => f2 post hpost)
  unfold wp_S_spreadPacked
  obtain ⟨K2, V2, f1, f2⟩ := key n K V (Nat.le_refl n) hf (fun j h1 h2 => absurd h2 (by omega)) (fun p h1 h2 _ => he p h1 h2) (fun q _ => ⟨rfl, rfl⟩)
  refine ⟨K2, V2, f1, fun post hpost => ⟨n + 1, ?_⟩⟩
  rw [n_sub1]
  exact f2 post hpost
