/-! The reference's readers, in the store's words: K is what the store's cells hold. -/
def Rm (K : Nat → Int64) (F : Nat → Int32) (J : Nat → Int64) : Prop := ∀ i, i < 512 → (F i = 0 ↔ K i = NOK) ∧ (K i ≠ NOK → J i = K i)
theorem p_M_segments {t : Nat} {post : Int32 → Prop} (ht : t ≤ 6) (h : post (nI (2 ^ t))) : wp_M_segments (nI (8 * 2 ^ t)) post := by
  unfold wp_M_segments
  have h2 := n_p6 ht
  rw [n_lit8, pk_div (by omega) (by decide) (by decide), Nat.mul_div_cancel_left _ (by decide)]
  exact h
theorem p_M_levels {t : Nat} {post : Int32 → Prop} (ht : t ≤ 6) (h : post (nI t)) : wp_M_levels (nI (8 * 2 ^ t)) post := by
  have key : ∀ k j, k + j = t → wp_M_levels_L7 (nI (8 * 2 ^ t)) post (k + 1) (nI j) (nI (2 ^ k)) := by
    intro k
    induction k with
    | zero =>
      intro j e
      obtain rfl : j = t := by omega
      rw [wp_M_levels_L7]
      exact ⟨fun _ => h, fun c => absurd (by decide) c⟩
    | succ k ih =>
      intro j e
      have hp := n_pp k
      have hk := n_p6 (show k + 1 ≤ 6 by omega)
      rw [n_p1] at hk
      rw [wp_M_levels_L7, n_p1]
      refine pk_le (2 * 2 ^ k) 1 (fun q => absurd q (by omega)) (fun _ => ?_) rfl rfl (by omega) (by decide)
      rw [nI_1, n_lit2, pk_div (by omega) (by decide) (by decide), Nat.mul_div_cancel_left _ (by decide)]
      exact ih (j + 1) (by omega)
  unfold wp_M_levels
  refine p_M_segments ht ?_
  exact ⟨t + 1, key t 0 (by omega)⟩
theorem p_M_levelOf {d x : Nat} {post : Int32 → Prop} (h1 : 2 ^ d ≤ x) (h2 : x < 2 ^ (d + 1)) (hd : d ≤ 29) (h : post (nI d)) : wp_M_levelOf (nI x) post := by
  have key : ∀ k m j, 2 ^ k ≤ m → m < 2 ^ (k + 1) → k + j = d → wp_M_levelOf_L4 post (k + 1) (nI j) (nI m) := by
    intro k
    induction k with
    | zero =>
      intro m j c1 c2 e
      obtain rfl : m = 1 := by have e0 : (2 : Nat) ^ 0 = 1 := rfl; have e1 : (2 : Nat) ^ (0 + 1) = 2 := rfl; omega
      obtain rfl : j = d := by omega
      rw [wp_M_levelOf_L4]
      exact ⟨fun _ => h, fun c => absurd (by decide) c⟩
    | succ k ih =>
      intro m j c1 c2 e
      have e2 : 2 ^ (k + 1 + 1) = 2 * 2 ^ (k + 1) := n_p1
      have e1 : 2 ^ (k + 1) = 2 * 2 ^ k := n_p1
      have hp := n_pp k
      have hk : 2 ^ (k + 1 + 1) ≤ 2 ^ 30 := Nat.pow_le_pow_right (by decide) (by omega)
      rw [wp_M_levelOf_L4]
      refine pk_le m 1 (fun q => absurd q (by omega)) (fun _ => ?_) rfl rfl (by omega) (by decide)
      rw [nI_1, n_lit2, pk_div (by omega) (by decide) (by decide)]
      exact ih (m / 2) (j + 1) (by omega) (by omega) (by omega)
  unfold wp_M_levelOf
  exact ⟨d + 1, key d x 0 h1 h2 (by omega)⟩
theorem p_M_greatest {K : Nat → Int64} {F : Nat → Int32} {J : Nat → Int64} {a w : Nat} {post : Int64 → Prop} (hR : Rm K F J) (hw : 8 * (a + w) ≤ 512) (h : post (gr K (8 * a) (8 * w))) : wp_M_greatest F J (nI a) (nI w) post := by
  have key : ∀ k i, i + k = 8 * w → wp_M_greatest_L10 F J (nI a) (nI w) post (k + 1) (gr K (8 * a) i) (nI (8 * a + i)) := by
    intro k
    induction k with
    | zero =>
      intro i hi
      obtain rfl : i = 8 * w := by omega
      rw [wp_M_greatest_L10, nI_add, n_lit8, pk_mul]
      exact ⟨fun _ => h, fun c => absurd (nI_le (by omega) (by omega)) c⟩
    | succ k ih =>
      intro i hi
      have hh := ih (i + 1) (by omega)
      rw [gr_s] at hh
      obtain ⟨r1, r2⟩ := hR (8 * a + i) (by omega)
      rw [wp_M_greatest_L10, nI_add, n_lit8, pk_mul, nI_clamp (by omega), nI_1]
      refine ⟨fun c => absurd c (nI_ge (by omega) (by omega)), fun _ => ⟨vp_in_nI (by omega) (by decide), fun c => ?_, fun c => ?_⟩⟩
      · rw [if_pos (r1.mp c)] at hh; exact hh
      · have c2 : ¬ K (8 * a + i) = NOK := fun q => c (r1.mpr q)
        rw [if_neg c2] at hh; rw [r2 c2]; exact hh
  unfold wp_M_greatest
  refine ⟨8 * w + 1, ?_⟩
  rw [n_lit8, pk_mul]
  exact key (8 * w) 0 (by omega)
theorem p_M_bears {K : Nat → Int64} {F : Nat → Int32} {J : Nat → Int64} {t d x : Nat} {post : Int64 → Prop} (hR : Rm K F J) (ht : t ≤ 6) (hd : d < t) (h1 : 2 ^ d ≤ x) (h2 : x < 2 ^ (d + 1)) (h : post (bear K t d x)) : wp_M_bears (nI (8 * 2 ^ t)) F J (nI x) post := by
  obtain ⟨e1, e2, e3, e4, e5⟩ := n_node ht hd h1 h2
  have hp := n_p6 ht
  have hpd := n_p6 (show d ≤ 6 by omega)
  unfold wp_M_bears
  refine p_M_segments ht ?_
  refine p_M_levelOf h1 h2 (by omega) ?_
  refine p_M_levelOf h1 h2 (by omega) ?_
  rw [n_shr (by omega) (by omega), Nat.pow_div (by omega) (by decide), n_lit1, n_shl (by omega) (by omega), Nat.one_mul, pk_sub h1, pk_mul, n_lit2, pk_div (by omega) (by decide) (by decide)]
  refine p_M_greatest hR ?_ ?_
  · omega
  · rw [show 2 ^ (t - d) / 2 = 2 ^ (t - d - 1) by omega]
    exact h
theorem p_M_step {K : Nat → Int64} {F : Nat → Int32} {J : Nat → Int64} {t d x : Nat} {key : Int64} {post : Int32 → Prop} (hR : Rm K F J) (ht : t ≤ 6) (hd : d < t) (h1 : 2 ^ d ≤ x) (h2 : x < 2 ^ (d + 1)) (h : post (nI (if bear K t d x = NOK ∨ bear K t d x < key then 2 * x + 1 else 2 * x))) : wp_M_step (nI (8 * 2 ^ t)) F J (nI x) key post := by
  unfold wp_M_step
  refine p_M_bears hR ht hd h1 h2 ?_
  rw [n_lit2, pk_mul, nI_1]
  refine ⟨fun c => ?_, fun c => ⟨fun c2 => ?_, fun c2 => ?_⟩⟩
  · rw [if_pos (Or.inl c)] at h; exact h
  · rw [if_pos (Or.inr c2)] at h; exact h
  · rw [if_neg (fun q => q.elim c c2)] at h; exact h
theorem p_M_seek {K : Nat → Int64} {F : Nat → Int32} {J : Nat → Int64} {t : Nat} {key : Int64} {post : Int32 → Prop} (hR : Rm K F J) (ht : t ≤ 6) (h : post (nI (sg K t key))) : wp_M_seek (nI (8 * 2 ^ t)) F J key post := by
  have hp := n_p6 ht
  have key2 : ∀ k d, d + k = t → wp_M_seek_L2 (nI (8 * 2 ^ t)) F J key post (k + 1) (nI (nd K t key d)) := by
    intro k
    induction k with
    | zero =>
      intro d e
      obtain rfl : d = t := by omega
      have hn := nd_in K d key d
      rw [wp_M_seek_L2]
      refine p_M_segments ht ?_
      refine ⟨fun _ => ?_, fun c => absurd (nI_le hn.1 (by rw [n_p1] at hn; omega)) c⟩
      refine p_M_segments ht ?_
      rw [pk_sub hn.1]
      exact h
    | succ k ih =>
      intro d e
      have hn := nd_in K t key d
      have hq : 2 ^ (d + 1) ≤ 2 ^ t := Nat.pow_le_pow_right (by decide) (by omega)
      have hi := ih (d + 1) (by omega)
      rw [nd_s] at hi
      rw [wp_M_seek_L2]
      refine p_M_segments ht ?_
      refine ⟨fun c => absurd c (nI_ge (by omega) (by omega)), fun _ => ?_⟩
      exact p_M_step hR ht (by omega) hn.1 hn.2 hi
  unfold wp_M_seek
  exact ⟨t + 1, key2 t 0 (by omega)⟩
theorem p_M_held {K : Nat → Int64} {F : Nat → Int32} {J : Nat → Int64} {a w : Nat} {post : Int32 → Prop} (hR : Rm K F J) (h : a + w ≤ 512) (hp : post (nI (cnt K a w))) : wp_M_held F (nI a) (nI w) post := by
  have key : ∀ k i, i + k = w → wp_M_held_L5 F (nI a) (nI w) post (k + 1) (nI (cnt K a i)) (nI (a + i)) := by
    intro k
    induction k with
    | zero =>
      intro i hi
      obtain rfl : i = w := by omega
      rw [wp_M_held_L5, nI_add]
      exact ⟨fun _ => hp, fun c => absurd (nI_le (Nat.le_refl _) (by omega)) c⟩
    | succ k ih =>
      intro i hi
      have hh := ih (i + 1) (by omega)
      obtain ⟨r1, r2⟩ := hR (a + i) (by omega)
      rw [cnt_s] at hh
      rw [wp_M_held_L5, nI_add, nI_clamp (by omega), nI_1, nI_1, n_lit0, nI_add]
      refine ⟨fun c => absurd c (nI_ge (by omega) (by omega)), fun _ => ⟨vp_in_nI (by omega) (by decide), fun c => ?_, fun c => ?_⟩⟩
      · rw [if_pos (r1.mp c)] at hh; exact hh
      · rw [if_neg (fun q => c (r1.mpr q))] at hh; exact hh
  unfold wp_M_held
  exact ⟨w + 1, key w 0 (by omega)⟩
/-! The simple answers. -/
/-- the last cell's key that is no greater than key -/
def fl (K : Nat → Int64) (key : Int64) : Nat → Int64
  | 0 => NOK
  | w + 1 => if K w ≠ NOK ∧ K w ≤ key then K w else fl K key w
theorem fl_s (K : Nat → Int64) (key : Int64) (w : Nat) : fl K key (w + 1) = if K w ≠ NOK ∧ K w ≤ key then K w else fl K key w := rfl
theorem p_S_cells {t : Nat} {post : Int32 → Prop} (ht : t ≤ 6) (h : post (nI (8 * 2 ^ t))) : wp_S_cells (nI t) post := by
  unfold wp_S_cells
  exact p_S_windowCells ht h
theorem p_S_floor {K : Nat → Int64} {t : Nat} {key : Int64} {post : Int64 → Prop} (ht : t ≤ 6) (h : post (fl K key (8 * 2 ^ t))) : wp_S_floor K (nI t) key post := by
  have hp := n_p6 ht
  have key2 : ∀ i, i ≤ 512 → post (fl K key i) → wp_S_floor_L7 K (nI t) key post (i + 1) (nI i + (-1)) := by
    intro i
    induction i with
    | zero =>
      intro _ hq
      rw [wp_S_floor_L7]
      exact ⟨fun _ => hq, fun c => absurd (by decide) c⟩
    | succ i ih =>
      intro hi hq
      rw [fl_s] at hq
      rw [wp_S_floor_L7, pk_m1, nI_clamp (by omega)]
      refine ⟨fun c => absurd c (nI_pos (by omega)), fun _ => ⟨vp_in_nI (by omega) (by decide), fun c => ?_, fun c => ⟨fun c2 => ?_, fun c2 => ?_⟩⟩⟩
      · rw [if_neg (fun q => q.1 c)] at hq; exact ih (by omega) hq
      · rw [if_neg (fun q => l_nle.mpr c2 q.2)] at hq; exact ih (by omega) hq
      · rw [if_pos ⟨c, l_nlt.mp c2⟩] at hq; exact hq
  unfold wp_S_floor
  refine p_S_cells ht ?_
  refine ⟨8 * 2 ^ t + 1, ?_⟩
  rw [n_sub1]
  exact key2 _ (by omega) h
theorem p_M_floor {K : Nat → Int64} {F : Nat → Int32} {J : Nat → Int64} {c0 : Nat} {key : Int64} {post : Int64 → Prop} (hR : Rm K F J) (hc : c0 ≤ 512) (h : post (fl K key c0)) : wp_M_floor (nI c0) F J key post := by
  have key2 : ∀ k i, i + k = c0 → wp_M_floor_L7 (nI c0) F J key post (k + 1) (fl K key i) (nI i) := by
    intro k
    induction k with
    | zero =>
      intro i hi
      obtain rfl : i = c0 := by omega
      rw [wp_M_floor_L7]
      exact ⟨fun _ => h, fun c => absurd (nI_le (Nat.le_refl _) (by omega)) c⟩
    | succ k ih =>
      intro i hi
      have hh := ih (i + 1) (by omega)
      rw [fl_s] at hh
      obtain ⟨r1, r2⟩ := hR i (by omega)
      rw [wp_M_floor_L7, nI_clamp (by omega), nI_1]
      refine ⟨fun c => absurd c (nI_ge (by omega) (by omega)), fun _ => ⟨vp_in_nI (by omega) (by decide), fun c => ?_, fun c => ?_⟩⟩
      · rw [if_neg (fun q => q.1 (r1.mp c))] at hh; exact hh
      · have c3 : K i ≠ NOK := fun q => c (r1.mpr q)
        rw [r2 c3]
        refine ⟨fun c2 => ?_, fun c2 => ?_⟩
        · rw [if_neg (fun q => l_nle.mpr c2 q.2)] at hh; exact hh
        · rw [if_pos ⟨c3, l_nlt.mp c2⟩] at hh; exact hh
  unfold wp_M_floor
  exact ⟨c0 + 1, key2 c0 0 (by omega)⟩
/-- how many cells hold a key between two others -/
def ctb (K : Nat → Int64) (lo hi : Int64) : Nat → Nat
  | 0 => 0
  | w + 1 => ctb K lo hi w + (if K w ≠ NOK ∧ lo ≤ K w ∧ K w ≤ hi then 1 else 0)
theorem ctb_s (K : Nat → Int64) (lo hi : Int64) (w : Nat) : ctb K lo hi (w + 1) = ctb K lo hi w + (if K w ≠ NOK ∧ lo ≤ K w ∧ K w ≤ hi then 1 else 0) := rfl
def smb (K V : Nat → Int64) (lo hi : Int64) : Nat → Int64
  | 0 => 0
  | w + 1 => smb K V lo hi w + (if K w ≠ NOK ∧ lo ≤ K w ∧ K w ≤ hi then V w else 0)
theorem smb_s (K V : Nat → Int64) (lo hi : Int64) (w : Nat) : smb K V lo hi (w + 1) = smb K V lo hi w + (if K w ≠ NOK ∧ lo ≤ K w ∧ K w ≤ hi then V w else 0) := rfl
theorem p_S_isHeld {K : Nat → Int64} {i : Nat} {lo hi : Int64} {post : Int32 → Prop} (h : i < 512) (h1 : (K i ≠ NOK ∧ lo ≤ K i ∧ K i ≤ hi) → post 1) (h0 : ¬ (K i ≠ NOK ∧ lo ≤ K i ∧ K i ≤ hi) → post 0) : wp_S_isHeldBetween K (nI i) lo hi post := by
  unfold wp_S_isHeldBetween
  rw [nI_clamp (by omega)]
  refine ⟨vp_in_nI h (by decide), fun c => h0 (fun q => q.1 c), fun c => ⟨fun c2 => h0 (fun q => l_nle.mpr c2 q.2.1), fun c2 => ⟨fun c3 => h0 (fun q => l_nle.mpr c3 q.2.2), fun c3 => h1 ⟨c, l_nlt.mp c2, l_nlt.mp c3⟩⟩⟩⟩
theorem p_S_count {K : Nat → Int64} {t : Nat} {lo hi : Int64} {post : Int32 → Prop} (ht : t ≤ 6) (h : post (nI (ctb K lo hi (8 * 2 ^ t)))) : wp_S_count K (nI t) lo hi post := by
  have hp := n_p6 ht
  have key2 : ∀ k i, i + k = 8 * 2 ^ t → wp_S_count_L6 K (nI t) lo hi post (k + 1) (nI (ctb K lo hi i)) (nI i) := by
    intro k
    induction k with
    | zero =>
      intro i e
      obtain rfl : i = 8 * 2 ^ t := by omega
      rw [wp_S_count_L6]
      refine p_S_cells ht ?_
      exact ⟨fun _ => h, fun c => absurd (nI_le (Nat.le_refl _) (by omega)) c⟩
    | succ k ih =>
      intro i e
      have hh := ih (i + 1) (by omega)
      rw [ctb_s] at hh
      rw [wp_S_count_L6]
      refine p_S_cells ht ?_
      rw [nI_1, nI_1]
      refine ⟨fun c => absurd c (nI_ge (by omega) (by omega)), fun _ => ?_⟩
      refine p_S_isHeld (by omega) (fun q => ?_) (fun q => ?_)
      · rw [if_pos q] at hh
        exact ⟨fun c => absurd c (by decide), fun _ => hh⟩
      · rw [if_neg q] at hh
        exact ⟨fun _ => hh, fun c => absurd rfl c⟩
  unfold wp_S_count
  exact ⟨8 * 2 ^ t + 1, key2 _ 0 (by omega)⟩
theorem p_M_count {K : Nat → Int64} {F : Nat → Int32} {J : Nat → Int64} {c0 : Nat} {lo hi : Int64} {post : Int32 → Prop} (hR : Rm K F J) (hc : c0 ≤ 512) (h : post (nI (ctb K lo hi c0))) : wp_M_count (nI c0) F J lo hi post := by
  have key2 : ∀ k i, i + k = c0 → wp_M_count_L6 (nI c0) F J lo hi post (k + 1) (nI (ctb K lo hi i)) (nI i) := by
    intro k
    induction k with
    | zero =>
      intro i e
      obtain rfl : i = c0 := by omega
      rw [wp_M_count_L6]
      exact ⟨fun _ => h, fun c => absurd (nI_le (Nat.le_refl _) (by omega)) c⟩
    | succ k ih =>
      intro i e
      have hh := ih (i + 1) (by omega)
      rw [ctb_s] at hh
      obtain ⟨r1, r2⟩ := hR i (by omega)
      rw [wp_M_count_L6, nI_clamp (by omega), nI_1, nI_1, n_lit0, nI_add]
      refine ⟨fun c => absurd c (nI_ge (by omega) (by omega)), fun _ => ⟨vp_in_nI (by omega) (by decide), fun c => ?_, fun c => ?_⟩⟩
      · rw [if_neg (fun q => q.1 (r1.mp c))] at hh; exact hh
      · have c3 : K i ≠ NOK := fun q => c (r1.mpr q)
        rw [r2 c3]
        refine ⟨fun c2 => ?_, fun c2 => ⟨fun c4 => ?_, fun c4 => ?_⟩⟩
        · rw [if_neg (fun q => l_nle.mpr c2 q.2.1)] at hh; exact hh
        · rw [if_neg (fun q => l_nle.mpr c4 q.2.2)] at hh; exact hh
        · rw [if_pos ⟨c3, l_nlt.mp c2, l_nlt.mp c4⟩] at hh; exact hh
  unfold wp_M_count
  exact ⟨c0 + 1, key2 c0 0 (by omega)⟩
theorem p_S_sum {K V : Nat → Int64} {t : Nat} {lo hi : Int64} {post : Int64 → Prop} (ht : t ≤ 6) (h : post (smb K V lo hi (8 * 2 ^ t))) : wp_S_sum K V (nI t) lo hi post := by
  have hp := n_p6 ht
  have key2 : ∀ k i, i + k = 8 * 2 ^ t → wp_S_sum_L6 K V (nI t) lo hi post (k + 1) (smb K V lo hi i) (nI i) := by
    intro k
    induction k with
    | zero =>
      intro i e
      obtain rfl : i = 8 * 2 ^ t := by omega
      rw [wp_S_sum_L6]
      refine p_S_cells ht ?_
      exact ⟨fun _ => h, fun c => absurd (nI_le (Nat.le_refl _) (by omega)) c⟩
    | succ k ih =>
      intro i e
      have hh := ih (i + 1) (by omega)
      rw [smb_s] at hh
      rw [wp_S_sum_L6]
      refine p_S_cells ht ?_
      rw [nI_1, nI_clamp (by omega)]
      refine ⟨fun c => absurd c (nI_ge (by omega) (by omega)), fun _ => ?_⟩
      refine p_S_isHeld (by omega) (fun q => ?_) (fun q => ?_)
      · rw [if_pos q] at hh
        exact ⟨fun c => absurd c (by decide), fun _ => ⟨vp_in_nI (by omega) (by decide), hh⟩⟩
      · rw [if_neg q, Int64.add_zero] at hh
        exact ⟨fun _ => hh, fun c => absurd rfl c⟩
  unfold wp_S_sum
  exact ⟨8 * 2 ^ t + 1, key2 _ 0 (by omega)⟩
theorem p_M_sum {K V : Nat → Int64} {F : Nat → Int32} {J G : Nat → Int64} {c0 : Nat} {lo hi : Int64} {post : Int64 → Prop} (hR : Rm K F J) (hV : ∀ i, i < 512 → K i ≠ NOK → G i = V i) (hc : c0 ≤ 512) (h : post (smb K V lo hi c0)) : wp_M_sum (nI c0) F J G lo hi post := by
  have key2 : ∀ k i, i + k = c0 → wp_M_sum_L6 (nI c0) F J G lo hi post (k + 1) (smb K V lo hi i) (nI i) := by
    intro k
    induction k with
    | zero =>
      intro i e
      obtain rfl : i = c0 := by omega
      rw [wp_M_sum_L6]
      exact ⟨fun _ => h, fun c => absurd (nI_le (Nat.le_refl _) (by omega)) c⟩
    | succ k ih =>
      intro i e
      have hh := ih (i + 1) (by omega)
      rw [smb_s] at hh
      obtain ⟨r1, r2⟩ := hR i (by omega)
      rw [wp_M_sum_L6, nI_clamp (by omega), nI_1]
      refine ⟨fun c => absurd c (nI_ge (by omega) (by omega)), fun _ => ⟨vp_in_nI (by omega) (by decide), fun c => ?_, fun c => ?_⟩⟩
      · rw [if_neg (fun q => q.1 (r1.mp c))] at hh; exact hh
      · have c3 : K i ≠ NOK := fun q => c (r1.mpr q)
        rw [r2 c3, hV i (by omega) c3]
        refine ⟨fun c2 => ?_, fun c2 => ⟨fun c4 => ?_, fun c4 => ?_⟩⟩
        · rw [if_neg (fun q => l_nle.mpr c2 q.2.1)] at hh; exact hh
        · rw [if_neg (fun q => l_nle.mpr c4 q.2.2)] at hh; exact hh
        · rw [if_pos ⟨c3, l_nlt.mp c2, l_nlt.mp c4⟩] at hh; exact hh
  unfold wp_M_sum
  exact ⟨c0 + 1, key2 c0 0 (by omega)⟩
