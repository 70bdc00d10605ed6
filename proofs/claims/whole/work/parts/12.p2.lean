/-! The store's readers. -/
theorem p_S_segments {t : Nat} {post : Int32 → Prop} (ht : t ≤ 6) (h : post (nI (2 ^ t))) : wp_S_segments (nI t) post := by
  unfold wp_S_segments
  have h2 := n_p6 ht
  rw [n_lit1, n_shl (by omega) (by omega), Nat.one_mul]
  exact h
theorem p_S_windowCells {t : Nat} {post : Int32 → Prop} (ht : t ≤ 6) (h : post (nI (8 * 2 ^ t))) : wp_S_windowCells (nI t) post := by
  unfold wp_S_windowCells
  have h2 := n_p6 ht
  rw [n_lit8, n_shl (by omega) (by omega)]
  exact h
theorem p_S_depthOf {d x : Nat} {post : Int32 → Prop} (h1 : 2 ^ d ≤ x) (h2 : x < 2 ^ (d + 1)) (hd : d ≤ 30) (h : post (nI d)) : wp_S_depthOf (nI x) post := by
  have key : ∀ k m j, 2 ^ k ≤ 2 * m + 1 → m < 2 ^ k → k + j = d → wp_S_depthOf_L6 post (k + 1) (nI j) (nI m) := by
    intro k
    induction k with
    | zero =>
      intro m j c1 c2 e
      rw [wp_S_depthOf_L6]
      obtain rfl : m = 0 := by have : (2 : Nat) ^ 0 = 1 := rfl; omega
      obtain rfl : j = d := by omega
      exact ⟨fun _ => h, fun c => absurd (by decide) c⟩
    | succ k ih =>
      intro m j c1 c2 e
      rw [n_p1] at c1 c2
      have hp := n_pp k
      have hk : 2 ^ (k + 1) ≤ 2 ^ 30 := Nat.pow_le_pow_right (by decide) (by omega)
      rw [n_p1] at hk
      rw [wp_S_depthOf_L6]
      refine pk_lt m 1 (fun q => absurd q (by omega)) (fun _ => ?_) rfl rfl (by omega) (by decide)
      rw [nI_1, n_lit2, pk_div (by omega) (by decide) (by decide)]
      exact ih (m / 2) (j + 1) (by omega) (by omega) (by omega)
  unfold wp_S_depthOf
  have hd2 : 2 ^ (d + 1) ≤ 2 ^ 31 := Nat.pow_le_pow_right (by decide) (by omega)
  rw [n_p1] at h2
  refine ⟨d + 1, ?_⟩
  rw [n_lit2, pk_div (by rw [n_p1] at hd2; omega) (by decide) (by decide)]
  exact key d (x / 2) 0 (by omega) (by omega) (by omega)
theorem p_S_greatestKey {K : Nat → Int64} {a w : Nat} {post : Int64 → Prop} (hw : a + w ≤ 512) (h : post (gr K a w)) : wp_S_greatestKey K (nI a) (nI w) post := by
  have key : ∀ i, i ≤ w → post (gr K a i) → wp_S_greatestKey_L6 K (nI a) post (i + 1) (nI (a + i) + (-1)) := by
    intro i
    induction i with
    | zero =>
      intro _ hp
      rw [wp_S_greatestKey_L6]
      exact ⟨fun _ => hp, fun c => absurd (n_dec (by omega)) c⟩
    | succ i ih =>
      intro hi hp
      rw [wp_S_greatestKey_L6, show a + (i + 1) = (a + i) + 1 from rfl, pk_m1, nI_clamp (by omega)]
      refine ⟨fun c => absurd c (nI_nlt (by omega) (by omega)), fun _ => ⟨vp_in_nI (by omega) (by decide), ?_⟩⟩
      rw [gr_s] at hp
      refine ⟨fun c => ?_, fun c => ?_⟩
      · rw [if_pos c] at hp
        exact ih (by omega) hp
      · rw [if_neg c] at hp
        exact hp
  unfold wp_S_greatestKey
  refine ⟨w + 1, ?_⟩
  rw [nI_add, n_sub1]
  exact key w (Nat.le_refl w) h
/-- what a node bears: node x at depth d of a tree of height t -/
def bear (K : Nat → Int64) (t d x : Nat) : Int64 := gr K (8 * ((x - 2 ^ d) * 2 ^ (t - d))) (8 * 2 ^ (t - d - 1))
theorem n_node {t d x : Nat} (ht : t ≤ 6) (hd : d < t) (h1 : 2 ^ d ≤ x) (h2 : x < 2 ^ (d + 1)) : 2 * x * 2 ^ (t - d - 1) = x * 2 ^ (t - d) ∧ 2 ^ t ≤ x * 2 ^ (t - d) ∧ x * 2 ^ (t - d) - 2 ^ t = (x - 2 ^ d) * 2 ^ (t - d) ∧ (x - 2 ^ d) * 2 ^ (t - d) + 2 ^ (t - d) ≤ 2 ^ t ∧ 2 ^ (t - d) = 2 * 2 ^ (t - d - 1) := by
  obtain ⟨r, rfl⟩ : ∃ r, t = d + 1 + r := ⟨t - (d + 1), by omega⟩
  have e1 : d + 1 + r - d = r + 1 := by omega
  have e2 : d + 1 + r - d - 1 = r := by omega
  obtain ⟨y, rfl⟩ : ∃ y, x = 2 ^ d + y := ⟨x - 2 ^ d, by omega⟩
  rw [n_p1] at h2
  have p1 : 2 ^ (r + 1) = 2 * 2 ^ r := n_p1
  have p2 : 2 ^ (d + 1 + r) = 2 * 2 ^ d * 2 ^ r := by rw [Nat.pow_add, n_p1]
  rw [e2, e1, p1, p2, Nat.add_sub_cancel_left, Nat.add_mul]
  have hr := n_pp r
  have ha : 2 * 2 ^ d * 2 ^ r = 2 ^ d * (2 * 2 ^ r) := by rw [Nat.mul_comm 2 (2 ^ d), Nat.mul_assoc]
  have hb : 2 * (2 ^ d + y) * 2 ^ r = 2 ^ d * (2 * 2 ^ r) + y * (2 * 2 ^ r) := by rw [Nat.mul_comm 2 (2 ^ d + y), Nat.mul_assoc, Nat.add_mul]
  have hc : (y + 1) * (2 * 2 ^ r) ≤ 2 ^ d * (2 * 2 ^ r) := Nat.mul_le_mul_right _ (by omega)
  rw [Nat.add_mul, Nat.one_mul] at hc
  rw [ha]
  exact ⟨hb, by omega, by omega, by omega, rfl⟩
theorem p_S_borneBy {K : Nat → Int64} {t d x : Nat} {post : Int64 → Prop} (ht : t ≤ 6) (hd : d < t) (h1 : 2 ^ d ≤ x) (h2 : x < 2 ^ (d + 1)) (h : post (bear K t d x)) : wp_S_borneBy K (nI t) (nI x) post := by
  obtain ⟨e1, e2, e3, e4, e5⟩ := n_node ht hd h1 h2
  have hp := n_p6 ht
  have hq := n_pp (t - d - 1)
  have hx : x < 128 := by
    have : 2 ^ (d + 1) ≤ 2 ^ 7 := Nat.pow_le_pow_right (by decide) (by omega)
    omega
  unfold wp_S_borneBy
  refine p_S_depthOf h1 h2 (by omega) ?_
  refine p_S_segments ht ?_
  rw [pk_sub (by omega), n_lit1, pk_sub (by omega)]
  refine p_S_windowCells (by omega) ?_
  rw [n_lit2, pk_mul, n_shl (by omega) (by rw [e1]; omega), e1, pk_sub e2, e3, n_lit8, pk_mul, Nat.mul_comm _ 8]
  exact p_S_greatestKey (by omega) h
/-- the road of a search: the node at depth d -/
def nd (K : Nat → Int64) (t : Nat) (key : Int64) : Nat → Nat
  | 0 => 1
  | d + 1 => if bear K t d (nd K t key d) = NOK ∨ bear K t d (nd K t key d) < key then 2 * nd K t key d + 1 else 2 * nd K t key d
theorem nd_s (K : Nat → Int64) (t : Nat) (key : Int64) (d : Nat) : nd K t key (d + 1) = if bear K t d (nd K t key d) = NOK ∨ bear K t d (nd K t key d) < key then 2 * nd K t key d + 1 else 2 * nd K t key d := rfl
theorem nd_in (K : Nat → Int64) (t : Nat) (key : Int64) : ∀ d, 2 ^ d ≤ nd K t key d ∧ nd K t key d < 2 ^ (d + 1)
  | 0 => by rw [nd]; decide
  | d + 1 => by
    have h := nd_in K t key d
    have e : 2 ^ (d + 1 + 1) = 2 * 2 ^ (d + 1) := n_p1
    have e2 : 2 ^ (d + 1) = 2 * 2 ^ d := n_p1
    rw [nd_s]
    split <;> omega
/-- the segment that a search reaches -/
def sg (K : Nat → Int64) (t : Nat) (key : Int64) : Nat := nd K t key t - 2 ^ t
theorem sg_lt (K : Nat → Int64) (t : Nat) (key : Int64) : sg K t key < 2 ^ t := by
  have h := nd_in K t key t
  rw [n_p1] at h
  unfold sg
  omega
theorem p_S_seek {K : Nat → Int64} {t : Nat} {key : Int64} {post : Int32 → Prop} (ht : t ≤ 6) (h : post (nI (sg K t key))) : wp_S_seek K (nI t) key post := by
  have key2 : ∀ k d, d + k = t → wp_S_seek_L5 K (nI t) key post (k + 1) (nI (nd K t key d)) (nI d) := by
    intro k
    induction k with
    | zero =>
      intro d e
      obtain rfl : d = t := by omega
      rw [wp_S_seek_L5]
      refine ⟨fun _ => ?_, fun c => absurd (nI_le (Nat.le_refl _) (by omega)) c⟩
      refine p_S_segments ht ?_
      rw [pk_sub (nd_in K d key d).1]
      exact h
    | succ k ih =>
      intro d e
      have hn := nd_in K t key d
      rw [wp_S_seek_L5]
      refine ⟨fun c => absurd c (nI_ge (by omega) (by omega)), fun _ => ?_⟩
      refine p_S_borneBy ht (by omega) hn.1 hn.2 ?_
      have hi := ih (d + 1) (by omega)
      rw [nd_s] at hi
      rw [n_lit2, pk_mul, nI_1, nI_1]
      refine ⟨fun c => ?_, fun c => ⟨fun c2 => ?_, fun c2 => ?_⟩⟩
      · rw [if_pos (Or.inl c)] at hi; exact hi
      · rw [if_pos (Or.inr c2)] at hi; exact hi
      · rw [if_neg (fun q => q.elim c c2)] at hi; exact hi
  unfold wp_S_seek
  exact ⟨t + 1, key2 t 0 (by omega)⟩
theorem p_S_keysAmong {K : Nat → Int64} {a w : Nat} {post : Int32 → Prop} (h : a + w ≤ 512) (hp : post (nI (cnt K a w))) : wp_S_keysAmong K (nI a) (nI w) post := by
  have key : ∀ k i, i + k = w → wp_S_keysAmong_L5 K (nI a) (nI w) post (k + 1) (nI (cnt K a i)) (nI (a + i)) := by
    intro k
    induction k with
    | zero =>
      intro i hi
      obtain rfl : i = w := by omega
      rw [wp_S_keysAmong_L5, nI_add]
      exact ⟨fun _ => hp, fun c => absurd (nI_le (Nat.le_refl _) (by omega)) c⟩
    | succ k ih =>
      intro i hi
      have hh := ih (i + 1) (by omega)
      rw [cnt_s] at hh
      rw [wp_S_keysAmong_L5, nI_add, nI_clamp (by omega), nI_1, nI_1]
      refine ⟨fun c => absurd c (nI_ge (by omega) (by omega)), fun _ => ⟨vp_in_nI (by omega) (by decide), fun c => ?_, fun c => ?_⟩⟩
      · rw [if_pos c] at hh; exact hh
      · rw [if_neg c] at hh; exact hh
  unfold wp_S_keysAmong
  exact ⟨w + 1, key w 0 (by omega)⟩
