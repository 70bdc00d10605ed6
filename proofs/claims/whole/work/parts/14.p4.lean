/-! A search ends where it should. -/
theorem gr_max {K : Nat → Int64} (hs : Srt K) {a : Nat} : ∀ {w : Nat}, a + w ≤ 512 → ∀ i, i < w → K (a + i) ≠ NOK → K (a + i) ≤ gr K a w
  | 0, _, i, hi, _ => absurd hi (by omega)
  | w + 1, hw, i, hi, hf => by
    rw [gr_s]
    by_cases c : K (a + w) = NOK
    · rw [if_pos c]
      have hne : i ≠ w := fun e => hf (by rw [e]; exact c)
      exact gr_max hs (by omega) i (by omega) hf
    · rw [if_neg c]
      rcases Nat.lt_or_ge i w with q | q
      · exact l_le_of_lt (hs (a + i) (a + w) (by omega) (by omega) hf c)
      · obtain rfl : i = w := by omega
        exact l_le_rf
/-- of the cells lo .. hi-1 and key: all before are less, all behind greater, and hi is the end or something here is no less -/
def Sk (K : Nat → Int64) (c0 : Nat) (key : Int64) (lo hi : Nat) : Prop :=
  (∀ j, j < lo → K j ≠ NOK → K j < key) ∧ (∀ j, hi ≤ j → j < 512 → K j ≠ NOK → key < K j) ∧ (hi = c0 ∨ ∃ m, lo ≤ m ∧ m < hi ∧ K m ≠ NOK ∧ key ≤ K m)
theorem sk_inv {K : Nat → Int64} {t : Nat} (key : Int64) (ht : t ≤ 6) (hs : Srt K) (hout : ∀ i, 8 * 2 ^ t ≤ i → i < 512 → K i = NOK) : ∀ d, d ≤ t →
    Sk K (8 * 2 ^ t) key (8 * ((nd K t key d - 2 ^ d) * 2 ^ (t - d))) (8 * ((nd K t key d - 2 ^ d) * 2 ^ (t - d)) + 8 * 2 ^ (t - d)) := by
  intro d
  induction d with
  | zero =>
    intro _
    have e : 8 * ((nd K t key 0 - 2 ^ 0) * 2 ^ (t - 0)) = 0 := by rw [nd]; simp
    rw [e]
    refine ⟨fun j hj => absurd hj (by omega), fun j h1 h2 h3 => absurd (hout j (by simpa using h1) h2) h3, Or.inl (by simp)⟩
  | succ d ih =>
    intro hd
    obtain ⟨hA, hB, hC⟩ := ih (by omega)
    obtain ⟨h1, h2⟩ := nd_in K t key d
    obtain ⟨e1, e2, e3, e4, e5⟩ := n_node ht (show d < t by omega) h1 h2
    have hp := n_p6 ht
    have er : t - (d + 1) = t - d - 1 := by omega
    have hr := n_pp (t - d - 1)
    rw [nd_s, er]
    generalize hx : nd K t key d = x at *
    have hbe : bear K t d x = gr K (8 * ((x - 2 ^ d) * 2 ^ (t - d))) (8 * 2 ^ (t - d - 1)) := rfl
    have elo : (x - 2 ^ d) * 2 ^ (t - d) = 2 * (x - 2 ^ d) * 2 ^ (t - d - 1) := by rw [e5, ← Nat.mul_assoc, Nat.mul_comm (x - 2 ^ d) 2]
    have eL : (2 * x - 2 ^ (d + 1)) * 2 ^ (t - d - 1) = (x - 2 ^ d) * 2 ^ (t - d) := by
      rw [elo, n_p1, show 2 * x - 2 * 2 ^ d = 2 * (x - 2 ^ d) by omega]
    have eR : (2 * x + 1 - 2 ^ (d + 1)) * 2 ^ (t - d - 1) = (x - 2 ^ d) * 2 ^ (t - d) + 2 ^ (t - d - 1) := by
      rw [elo, n_p1, show 2 * x + 1 - 2 * 2 ^ d = 2 * (x - 2 ^ d) + 1 by omega, Nat.add_mul, Nat.one_mul]
    generalize hlo : (x - 2 ^ d) * 2 ^ (t - d) = lo at *
    generalize hrr : 2 ^ (t - d - 1) = r at *
    by_cases c : bear K t d x = NOK ∨ bear K t d x < key
    · rw [if_pos c, eR]
      have hA2 : ∀ j, j < 8 * (lo + r) → K j ≠ NOK → K j < key := by
        intro j hj hf
        rcases Nat.lt_or_ge j (8 * lo) with q | q
        · exact hA j q hf
        · obtain ⟨i, rfl⟩ : ∃ i, j = 8 * lo + i := ⟨j - 8 * lo, by omega⟩
          rcases c with c | c
          · rw [hbe] at c
            exact absurd (gr_none c i (by omega)) hf
          · rw [hbe] at c
            exact l_lt_of_le_of_lt (gr_max hs (by omega) i (by omega) hf) c
      refine ⟨hA2, fun j q1 q2 q3 => hB j (by omega) q2 q3, ?_⟩
      rcases hC with hC | ⟨mm, m1, m2, m3, m4⟩
      · exact Or.inl (by omega)
      · refine Or.inr ⟨mm, ?_, by omega, m3, m4⟩
        rcases Nat.lt_or_ge mm (8 * (lo + r)) with q | q
        · exact absurd (hA2 mm q m3) (l_nlt.mpr m4)
        · exact q
    · rw [if_neg c, eL]
      have c1 : bear K t d x ≠ NOK := fun q => c (Or.inl q)
      have c2 : key ≤ bear K t d x := l_nlt.mp (fun q => c (Or.inr q))
      rw [hbe] at c1 c2
      obtain ⟨i, hi, he⟩ := gr_some c1
      refine ⟨hA, fun j q1 q2 q3 => ?_, Or.inr ⟨8 * lo + i, by omega, by omega, by rw [he]; exact c1, by rw [he]; exact c2⟩⟩
      refine l_lt_of_le_of_lt c2 ?_
      rw [← he]
      exact hs _ _ (by omega) q2 (by rw [he]; exact c1) q3
theorem sg_ok {K : Nat → Int64} {t : Nat} (key : Int64) (ht : t ≤ 6) (hs : Srt K) (hout : ∀ i, 8 * 2 ^ t ≤ i → i < 512 → K i = NOK) : Sk K (8 * 2 ^ t) key (8 * sg K t key) (8 * sg K t key + 8) := by
  have h := sk_inv key ht hs hout t (Nat.le_refl t)
  rw [Nat.sub_self, Nat.pow_zero, Nat.mul_one] at h
  exact h
def IsC (K : Nat → Int64) (c0 : Nat) (key : Int64) (i : Nat) : Prop := i < c0 ∧ K i ≠ NOK ∧ key ≤ K i ∧ ∀ j, j < i → K j ≠ NOK → K j < key
def NoC (K : Nat → Int64) (c0 : Nat) (key : Int64) : Prop := ∀ j, j < c0 → K j ≠ NOK → K j < key
theorem p_S_cellNotBelow {K : Nat → Int64} {t : Nat} {key : Int64} {post : Int32 → Prop} (ht : t ≤ 6) (hs : Srt K) (hout : ∀ i, 8 * 2 ^ t ≤ i → i < 512 → K i = NOK)
    (h1 : ∀ i, IsC K (8 * 2 ^ t) key i → post (nI i)) (h0 : NoC K (8 * 2 ^ t) key → post (-1)) : wp_S_cellNotBelow K (nI t) key post := by
  have hp := n_p6 ht
  have hl := sg_lt K t key
  obtain ⟨hA, hB, hC⟩ := sg_ok key ht hs hout
  generalize hg : sg K t key = x at *
  have key2 : ∀ k i, i + k = 8 → (∀ j, j < x * 8 + i → K j ≠ NOK → K j < key) → wp_S_cellNotBelow_L12 K (nI t) key (nI (x * 8)) post (k + 1) (nI (x * 8 + i)) := by
    intro k
    induction k with
    | zero =>
      intro i e hi
      obtain rfl : i = 8 := by omega
      rw [wp_S_cellNotBelow_L12, n_lit8, nI_add]
      refine ⟨fun _ => h0 ?_, fun c => absurd (nI_le (Nat.le_refl _) (by omega)) c⟩
      rcases hC with hC | ⟨mm, m1, m2, m3, m4⟩
      · intro j hj hf
        exact hi j (by omega) hf
      · exact absurd (hi mm (by omega) m3) (l_nlt.mpr m4)
    | succ k ih =>
      intro i e hi
      rw [wp_S_cellNotBelow_L12, n_lit8, nI_add, nI_clamp (by omega), nI_1]
      refine ⟨fun c => absurd c (nI_ge (by omega) (by omega)), fun _ => ⟨vp_in_nI (by omega) (by decide), fun c => ?_, fun c => ⟨fun c2 => ?_, fun c2 => ?_⟩⟩⟩
      · refine ih (i + 1) (by omega) (fun j hj hf => ?_)
        rcases Nat.lt_or_ge j (x * 8 + i) with q | q
        · exact hi j q hf
        · obtain rfl : j = x * 8 + i := by omega
          exact absurd c hf
      · refine ih (i + 1) (by omega) (fun j hj hf => ?_)
        rcases Nat.lt_or_ge j (x * 8 + i) with q | q
        · exact hi j q hf
        · obtain rfl : j = x * 8 + i := by omega
          exact c2
      · exact h1 _ ⟨by omega, c, l_nlt.mp c2, hi⟩
  unfold wp_S_cellNotBelow
  refine p_S_seek ht ?_
  rw [hg, n_lit8, pk_mul]
  exact ⟨9, key2 8 0 rfl (fun j hj hf => hA j (by omega) hf)⟩
theorem p_S_cellOf {K : Nat → Int64} {t : Nat} {key : Int64} {post : Int32 → Prop} (ht : t ≤ 6) (hs : Srt K) (hout : ∀ i, 8 * 2 ^ t ≤ i → i < 512 → K i = NOK)
    (h1 : ∀ i, i < 8 * 2 ^ t → K i ≠ NOK → K i = key → post (nI i)) (h0 : (∀ i, i < 8 * 2 ^ t → K i ≠ NOK → K i ≠ key) → post (-1)) : wp_S_cellOf K (nI t) key post := by
  have hp := n_p6 ht
  unfold wp_S_cellOf
  refine p_S_cellNotBelow ht hs hout (fun i hi => ?_) (fun hn => ?_)
  · obtain ⟨i1, i2, i3, i4⟩ := hi
    rw [nI_clamp (by omega)]
    refine ⟨fun c => absurd c (n_m1 (by omega)), fun _ => ⟨vp_in_nI (by omega) (by decide), fun c => h1 i i1 i2 c, fun c => h0 (fun j j1 j2 => ?_)⟩⟩
    rcases Nat.lt_trichotomy j i with q | q | q
    · exact l_ne_of_lt (i4 j q j2)
    · rw [q]; exact c
    · exact (l_ne_of_lt (l_lt_of_le_of_lt i3 (hs i j q (by omega) i2 j2))).symm
  · exact ⟨fun _ => h0 (fun i i1 i2 => l_ne_of_lt (hn i i1 i2)), fun c => absurd rfl c⟩
theorem p_S_has {K : Nat → Int64} {t : Nat} {key : Int64} {post : Int32 → Prop} (ht : t ≤ 6) (hs : Srt K) (hout : ∀ i, 8 * 2 ^ t ≤ i → i < 512 → K i = NOK)
    (h1 : (∃ i, i < 8 * 2 ^ t ∧ K i ≠ NOK ∧ K i = key) → post 1) (h0 : (∀ i, i < 8 * 2 ^ t → K i ≠ NOK → K i ≠ key) → post 0) : wp_S_has K (nI t) key post := by
  have hp := n_p6 ht
  unfold wp_S_has
  refine p_S_cellOf ht hs hout (fun i a b c => ?_) (fun h => ?_)
  · exact ⟨fun q => absurd q (n_m1 (by omega)), fun _ => h1 ⟨i, a, b, c⟩⟩
  · exact ⟨fun _ => h0 h, fun q => absurd rfl q⟩
theorem p_S_get {K V : Nat → Int64} {t : Nat} {key : Int64} {post : Int64 → Prop} (ht : t ≤ 6) (hs : Srt K) (hout : ∀ i, 8 * 2 ^ t ≤ i → i < 512 → K i = NOK)
    (h1 : ∀ i, i < 8 * 2 ^ t → K i ≠ NOK → K i = key → post (V i)) (h0 : (∀ i, i < 8 * 2 ^ t → K i ≠ NOK → K i ≠ key) → post 0) : wp_S_get K V (nI t) key post := by
  have hp := n_p6 ht
  unfold wp_S_get
  refine p_S_cellOf ht hs hout (fun i a b c => ?_) (fun h => ?_)
  · rw [nI_clamp (by omega)]
    exact ⟨fun q => absurd q (n_m1 (by omega)), fun _ => ⟨vp_in_nI (by omega) (by decide), h1 i a b c⟩⟩
  · exact ⟨fun _ => h0 h, fun q => absurd rfl q⟩
theorem p_S_ceiling {K : Nat → Int64} {t : Nat} {key : Int64} {post : Int64 → Prop} (ht : t ≤ 6) (hs : Srt K) (hout : ∀ i, 8 * 2 ^ t ≤ i → i < 512 → K i = NOK)
    (h1 : ∀ i, IsC K (8 * 2 ^ t) key i → post (K i)) (h0 : NoC K (8 * 2 ^ t) key → post NOK) : wp_S_ceiling K (nI t) key post := by
  have hp := n_p6 ht
  unfold wp_S_ceiling
  refine p_S_cellNotBelow ht hs hout (fun i hi => ?_) (fun hn => ?_)
  · have := hi.1
    rw [nI_clamp (by omega)]
    exact ⟨fun q => absurd q (n_m1 (by omega)), fun _ => ⟨vp_in_nI (by omega) (by decide), h1 i hi⟩⟩
  · exact ⟨fun _ => h0 hn, fun q => absurd rfl q⟩
theorem p_M_cellOf {K : Nat → Int64} {F : Nat → Int32} {J : Nat → Int64} {c0 : Nat} {key : Int64} {post : Int32 → Prop} (hR : Rm K F J) (hc : c0 ≤ 512)
    (h1 : ∀ i, i < c0 → K i ≠ NOK → K i = key → post (nI i)) (h0 : (∀ i, i < c0 → K i ≠ NOK → K i ≠ key) → post (-1)) : wp_M_cellOf (nI c0) F J key post := by
  have key2 : ∀ k i (x : Int32), i + k = c0 → ((∃ j, j < i ∧ K j ≠ NOK ∧ K j = key ∧ x = nI j) ∨ (x = -1 ∧ ∀ j, j < i → K j ≠ NOK → K j ≠ key)) → wp_M_cellOf_L5 (nI c0) F J key post (k + 1) x (nI i) := by
    intro k
    induction k with
    | zero =>
      intro i x e hx
      obtain rfl : i = c0 := by omega
      rw [wp_M_cellOf_L5]
      refine ⟨fun _ => ?_, fun c => absurd (nI_le (Nat.le_refl _) (by omega)) c⟩
      rcases hx with ⟨j, a, b, c, rfl⟩ | ⟨rfl, hn⟩
      · exact h1 j a b c
      · exact h0 hn
    | succ k ih =>
      intro i x e hx
      obtain ⟨r1, r2⟩ := hR i (by omega)
      rw [wp_M_cellOf_L5, nI_clamp (by omega), nI_1]
      refine ⟨fun c => absurd c (nI_ge (by omega) (by omega)), fun _ => ⟨vp_in_nI (by omega) (by decide), fun c => ?_, fun c => ?_⟩⟩
      · refine ih (i + 1) x (by omega) ?_
        rcases hx with ⟨j, a, b, d, f⟩ | ⟨f, hn⟩
        · exact Or.inl ⟨j, by omega, b, d, f⟩
        · refine Or.inr ⟨f, fun j hj hf => ?_⟩
          rcases Nat.lt_or_ge j i with q | q
          · exact hn j q hf
          · obtain rfl : j = i := by omega
            exact absurd (r1.mp c) hf
      · have c3 : K i ≠ NOK := fun q => c (r1.mpr q)
        rw [r2 c3]
        refine ⟨fun c2 => ?_, fun c2 => ?_⟩
        · exact ih (i + 1) (nI i) (by omega) (Or.inl ⟨i, by omega, c3, c2, rfl⟩)
        · refine ih (i + 1) x (by omega) ?_
          rcases hx with ⟨j, a, b, d, f⟩ | ⟨f, hn⟩
          · exact Or.inl ⟨j, by omega, b, d, f⟩
          · refine Or.inr ⟨f, fun j hj hf => ?_⟩
            rcases Nat.lt_or_ge j i with q | q
            · exact hn j q hf
            · obtain rfl : j = i := by omega
              exact c2
  unfold wp_M_cellOf
  exact ⟨c0 + 1, key2 c0 0 (-1) (by omega) (Or.inr ⟨rfl, fun j hj => absurd hj (by omega)⟩)⟩
theorem p_M_has {K : Nat → Int64} {F : Nat → Int32} {J : Nat → Int64} {c0 : Nat} {key : Int64} {post : Int32 → Prop} (hR : Rm K F J) (hc : c0 ≤ 512)
    (h1 : (∃ i, i < c0 ∧ K i ≠ NOK ∧ K i = key) → post 1) (h0 : (∀ i, i < c0 → K i ≠ NOK → K i ≠ key) → post 0) : wp_M_has (nI c0) F J key post := by
  unfold wp_M_has
  refine p_M_cellOf hR hc (fun i a b c => ?_) (fun h => ?_)
  · exact ⟨fun q => absurd q (nI_pos (by omega)), fun _ => h1 ⟨i, a, b, c⟩⟩
  · exact ⟨fun _ => h0 h, fun q => absurd (by decide) q⟩
theorem p_M_get {K V : Nat → Int64} {F : Nat → Int32} {J G : Nat → Int64} {c0 : Nat} {key : Int64} {post : Int64 → Prop} (hR : Rm K F J) (hV : ∀ i, i < 512 → K i ≠ NOK → G i = V i) (hc : c0 ≤ 512)
    (h1 : ∀ i, i < c0 → K i ≠ NOK → K i = key → post (V i)) (h0 : (∀ i, i < c0 → K i ≠ NOK → K i ≠ key) → post 0) : wp_M_get (nI c0) F J G key post := by
  unfold wp_M_get
  refine p_M_cellOf hR hc (fun i a b c => ?_) (fun h => ?_)
  · rw [nI_clamp (by omega), hV i (by omega) b]
    exact ⟨fun _ => ⟨vp_in_nI (by omega) (by decide), h1 i a b c⟩, fun q => absurd (nI_pos' (by omega)) q⟩
  · exact ⟨fun q => absurd q (by decide), fun _ => h0 h⟩
theorem p_M_ceiling {K : Nat → Int64} {F : Nat → Int32} {J : Nat → Int64} {c0 : Nat} {key : Int64} {post : Int64 → Prop} (hR : Rm K F J) (hc : c0 ≤ 512)
    (h1 : ∀ i, IsC K c0 key i → post (K i)) (h0 : NoC K c0 key → post NOK) : wp_M_ceiling (nI c0) F J key post := by
  have key2 : ∀ i (x : Int64), i ≤ c0 → ((∃ m, i ≤ m ∧ m < c0 ∧ K m ≠ NOK ∧ key ≤ K m ∧ x = K m ∧ ∀ j, i ≤ j → j < m → K j ≠ NOK → K j < key) ∨ (x = NOK ∧ ∀ j, i ≤ j → j < c0 → K j ≠ NOK → K j < key)) → wp_M_ceiling_L12 (nI c0) F J key post (i + 1) x (nI i + (-1)) := by
    intro i
    induction i with
    | zero =>
      intro x _ hx
      rw [wp_M_ceiling_L12]
      refine ⟨fun _ => ?_, fun c => absurd (by decide) c⟩
      rcases hx with ⟨m, m1, m2, m3, m4, rfl, m6⟩ | ⟨rfl, hn⟩
      · exact h1 m ⟨m2, m3, m4, fun j hj hf => m6 j (by omega) hj hf⟩
      · exact h0 (fun j hj hf => hn j (by omega) hj hf)
    | succ i ih =>
      intro x hi hx
      obtain ⟨r1, r2⟩ := hR i (by omega)
      have keep : (K i ≠ NOK → K i < key) → wp_M_ceiling_L12 (nI c0) F J key post (i + 1) x (nI i + (-1)) := by
        intro hk
        refine ih x (by omega) ?_
        rcases hx with ⟨m, m1, m2, m3, m4, m5, m6⟩ | ⟨m5, hn⟩
        · refine Or.inl ⟨m, by omega, m2, m3, m4, m5, fun j h2 h3 h4 => ?_⟩
          rcases Nat.lt_or_ge i j with q | q
          · exact m6 j (by omega) h3 h4
          · obtain rfl : j = i := by omega
            exact hk h4
        · refine Or.inr ⟨m5, fun j h2 h3 h4 => ?_⟩
          rcases Nat.lt_or_ge i j with q | q
          · exact hn j (by omega) h3 h4
          · obtain rfl : j = i := by omega
            exact hk h4
      rw [wp_M_ceiling_L12, pk_m1, nI_clamp (by omega)]
      refine ⟨fun c => absurd c (nI_pos (by omega)), fun _ => ⟨vp_in_nI (by omega) (by decide), fun c => ?_, fun c => ?_⟩⟩
      · exact keep (fun q => absurd (r1.mp c) q)
      · have c3 : K i ≠ NOK := fun q => c (r1.mpr q)
        rw [r2 c3]
        refine ⟨fun c2 => keep (fun _ => c2), fun c2 => ?_⟩
        exact ih (K i) (by omega) (Or.inl ⟨i, by omega, by omega, c3, l_nlt.mp c2, rfl, fun j h2 h3 => absurd h3 (by omega)⟩)
  unfold wp_M_ceiling
  refine ⟨c0 + 1, ?_⟩
  rw [n_sub1]
  exact key2 c0 NOK (Nat.le_refl _) (Or.inr ⟨rfl, fun j h2 h3 => absurd h3 (by omega)⟩)
/-! select, size, cellKey -/
theorem cnt0_s (K : Nat → Int64) (w : Nat) : cnt K 0 (w + 1) = cnt K 0 w + (if K w = NOK then 0 else 1) := by rw [cnt_s, Nat.zero_add]
def sel (K : Nat → Int64) (k : Int32) : Nat → Int64
  | 0 => NOK
  | w + 1 => if K w ≠ NOK ∧ nI (cnt K 0 w) = k then K w else sel K k w
theorem sel_s (K : Nat → Int64) (k : Int32) (w : Nat) : sel K k (w + 1) = if K w ≠ NOK ∧ nI (cnt K 0 w) = k then K w else sel K k w := rfl
theorem sel_hit {K : Nat → Int64} {k : Int32} {i : Nat} (h1 : K i ≠ NOK) (h2 : nI (cnt K 0 i) = k) : ∀ w, i + 1 + w ≤ 512 → sel K k (i + 1 + w) = K i
  | 0, _ => by rw [Nat.add_zero, sel_s, if_pos ⟨h1, h2⟩]
  | w + 1, hw => by
    rw [show i + 1 + (w + 1) = (i + 1 + w) + 1 from rfl, sel_s, if_neg]
    · exact sel_hit h1 h2 w (by omega)
    · intro q
      have a1 := cnt_mono K 0 (i + 1) w
      rw [cnt0_s, if_neg h1] at a1
      have a2 := cnt_le K 0 (i + 1 + w)
      have e : nI (cnt K 0 (i + 1 + w)) = nI (cnt K 0 i) := by rw [q.2, h2]
      rw [nI_eq (by omega) (by omega)] at e
      omega
theorem p_S_select {K : Nat → Int64} {t : Nat} {k : Int32} {post : Int64 → Prop} (ht : t ≤ 6) (h : post (sel K k (8 * 2 ^ t))) : wp_S_select K (nI t) k post := by
  have hp := n_p6 ht
  have key2 : ∀ r i, i + r = 8 * 2 ^ t → sel K k i = NOK → wp_S_select_L4 K (nI t) k post (r + 1) (nI (cnt K 0 i)) (nI i) := by
    intro r
    induction r with
    | zero =>
      intro i e hn
      obtain rfl : i = 8 * 2 ^ t := by omega
      rw [wp_S_select_L4]
      refine p_S_cells ht ?_
      refine ⟨fun _ => ?_, fun c => absurd (nI_le (Nat.le_refl _) (by omega)) c⟩
      rw [hn] at h
      exact h
    | succ r ih =>
      intro i e hn
      have hh := ih (i + 1) (by omega)
      rw [sel_s, cnt0_s] at hh
      rw [wp_S_select_L4]
      refine p_S_cells ht ?_
      rw [nI_clamp (by omega), nI_1, nI_1]
      refine ⟨fun c => absurd c (nI_ge (by omega) (by omega)), fun _ => ⟨vp_in_nI (by omega) (by decide), fun c => ?_, fun c => ⟨fun c2 => ?_, fun c2 => ?_⟩⟩⟩
      · rw [if_neg (fun q => q.1 c), if_pos c] at hh; exact hh hn
      · have e2 := sel_hit c c2 r (by omega)
        rw [show i + 1 + r = 8 * 2 ^ t by omega] at e2
        rw [e2] at h
        exact h
      · rw [if_neg (fun q => c2 q.2), if_neg c] at hh; exact hh hn
  unfold wp_S_select
  exact ⟨8 * 2 ^ t + 1, key2 _ 0 (by omega) rfl⟩
theorem p_M_select {K : Nat → Int64} {F : Nat → Int32} {J : Nat → Int64} {c0 : Nat} {k : Int32} {post : Int64 → Prop} (hR : Rm K F J) (hc : c0 ≤ 512) (h : post (sel K k c0)) : wp_M_select (nI c0) F J k post := by
  have key2 : ∀ r i, i + r = c0 → wp_M_select_L9 (nI c0) F J k post (r + 1) (nI (cnt K 0 i)) (sel K k i) (nI i) := by
    intro r
    induction r with
    | zero =>
      intro i e
      obtain rfl : i = c0 := by omega
      rw [wp_M_select_L9]
      exact ⟨fun _ => h, fun c => absurd (nI_le (Nat.le_refl _) (by omega)) c⟩
    | succ r ih =>
      intro i e
      have hh := ih (i + 1) (by omega)
      rw [sel_s, cnt0_s] at hh
      obtain ⟨r1, r2⟩ := hR i (by omega)
      rw [wp_M_select_L9, nI_clamp (by omega), nI_1, nI_1, n_lit0, nI_add]
      refine ⟨fun c => absurd c (nI_ge (by omega) (by omega)), fun _ => ⟨vp_in_nI (by omega) (by decide), fun c => ?_, fun c => ?_⟩⟩
      · have c3 := r1.mp c
        rw [if_pos c3, if_neg (fun q => q.1 c3)] at hh; exact hh
      · have c3 : K i ≠ NOK := fun q => c (r1.mpr q)
        rw [r2 c3]
        refine ⟨fun c2 => ?_, fun c2 => ?_⟩
        · rw [if_neg c3, if_pos ⟨c3, c2⟩] at hh; exact hh
        · rw [if_neg c3, if_neg (fun q => c2 q.2)] at hh; exact hh
  unfold wp_M_select
  exact ⟨c0 + 1, key2 c0 0 (by omega)⟩
theorem p_S_size {K : Nat → Int64} {t : Nat} {post : Int32 → Prop} (ht : t ≤ 6) (h : post (nI (cnt K 0 (8 * 2 ^ t)))) : wp_S_size K (nI t) post := by
  have hp := n_p6 ht
  unfold wp_S_size
  refine p_S_cells ht ?_
  rw [n_lit0]
  exact p_S_keysAmong (by omega) h
theorem p_M_size {K : Nat → Int64} {F : Nat → Int32} {J : Nat → Int64} {c0 : Nat} {post : Int32 → Prop} (hR : Rm K F J) (hc : c0 ≤ 512) (h : post (nI (cnt K 0 c0))) : wp_M_size (nI c0) F post := by
  unfold wp_M_size
  rw [n_lit0]
  exact p_M_held hR (by omega) h
/-- the key of a cell by its number, none outside -/
theorem p_cellKey {K : Nat → Int64} {F : Nat → Int32} {J : Nat → Int64} {t : Nat} {a : Int32} (hR : Rm K F J) (ht : t ≤ 6) : ∃ r : Int64, (∀ post : Int64 → Prop, post r → wp_S_cellKey K (nI t) a post) ∧ (∀ post : Int64 → Prop, post r → wp_M_cellKey (nI (8 * 2 ^ t)) F J a post) := by
  have hp := n_p6 ht
  by_cases c : a < 0
  · refine ⟨NOK, fun post h => ?_, fun post h => ?_⟩
    · unfold wp_S_cellKey; exact ⟨fun _ => h, fun q => absurd c q⟩
    · unfold wp_M_cellKey; exact ⟨fun _ => h, fun q => absurd c q⟩
  · obtain ⟨j, hj, rfl⟩ := nI_of c
    rcases Nat.lt_or_ge j (8 * 2 ^ t) with q | q
    · obtain ⟨r1, r2⟩ := hR j (by omega)
      refine ⟨K j, fun post h => ?_, fun post h => ?_⟩
      · unfold wp_S_cellKey
        refine ⟨fun q => absurd q c, fun _ => p_S_cells ht ?_⟩
        rw [nI_clamp (by omega)]
        exact ⟨fun _ => ⟨vp_in_nI (by omega) (by decide), h⟩, fun z => absurd (nI_lt q (by omega)) z⟩
      · unfold wp_M_cellKey
        rw [nI_clamp (by omega)]
        refine ⟨fun q => absurd q c, fun _ => ⟨fun z => absurd z (nI_ge q (by omega)), fun _ => ⟨vp_in_nI (by omega) (by decide), fun z => ?_, fun z => ?_⟩⟩⟩
        · rw [r1.mp z] at h; exact h
        · rw [r2 (fun y => z (r1.mpr y))]; exact h
    · refine ⟨NOK, fun post h => ?_, fun post h => ?_⟩
      · unfold wp_S_cellKey
        refine ⟨fun q => absurd q c, fun _ => p_S_cells ht ?_⟩
        exact ⟨fun z => absurd z (nI_nlt q (by omega)), fun _ => h⟩
      · unfold wp_M_cellKey
        exact ⟨fun q => absurd q c, fun _ => ⟨fun _ => h, fun z => absurd (nI_le q (by omega)) z⟩⟩
