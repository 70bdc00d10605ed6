/-! Places of nodes. -/
def pit : Nat → Nat → Nat → Nat
  | 0, _, _ => 0
  | n + 1, x, h => if h ≤ 1 then 0 else if Nat.log2 x < (h + 1) / 2 then pit n x ((h + 1) / 2) else
      ((2 ^ ((h + 1) / 2) - 1) + (x / 2 ^ (Nat.log2 x - (h + 1) / 2) - 2 ^ ((h + 1) / 2)) * (2 ^ (h - (h + 1) / 2) - 1)) + pit n (2 ^ (Nat.log2 x - (h + 1) / 2) + x % 2 ^ (Nat.log2 x - (h + 1) / 2)) (h - (h + 1) / 2)
theorem pit_s (n x h : Nat) : pit (n + 1) x h = if h ≤ 1 then 0 else if Nat.log2 x < (h + 1) / 2 then pit n x ((h + 1) / 2) else
      ((2 ^ ((h + 1) / 2) - 1) + (x / 2 ^ (Nat.log2 x - (h + 1) / 2) - 2 ^ ((h + 1) / 2)) * (2 ^ (h - (h + 1) / 2) - 1)) + pit n (2 ^ (Nat.log2 x - (h + 1) / 2) + x % 2 ^ (Nat.log2 x - (h + 1) / 2)) (h - (h + 1) / 2) := rfl
theorem lg_in {x : Nat} (h : 1 ≤ x) : 2 ^ Nat.log2 x ≤ x ∧ x < 2 ^ (Nat.log2 x + 1) := ⟨Nat.log2_self_le (by omega), Nat.lt_log2_self⟩
theorem lg_le {x n : Nat} (h : 1 ≤ x) (h2 : x < 2 ^ (n + 1)) : Nat.log2 x ≤ n := by
  rcases Nat.lt_or_ge n (Nat.log2 x) with q | q
  · have a := (lg_in h).1
    have b : 2 ^ (n + 1) ≤ 2 ^ Nat.log2 x := Nat.pow_le_pow_right (by decide) (by omega)
    omega
  · exact q
theorem lg_eq {x d : Nat} (h : 2 ^ d ≤ x) (h2 : x < 2 ^ (d + 1)) : Nat.log2 x = d := by
  have hp := n_pp d
  have a := lg_le (by omega) h2
  rcases Nat.lt_or_ge (Nat.log2 x) d with q | q
  · have b := (lg_in (show 1 ≤ x by omega)).2
    have c : 2 ^ (Nat.log2 x + 1) ≤ 2 ^ d := Nat.pow_le_pow_right (by decide) (by omega)
    omega
  · omega
theorem p_S_nodesOfTree {h : Nat} {post : Int32 → Prop} (hh : h ≤ 6) (hp : post (nI (2 ^ h - 1))) : wp_S_nodesOfTree (nI h) post := by
  have h2 := n_p6 hh
  have h3 := n_pp h
  unfold wp_S_nodesOfTree
  rw [n_lit1, n_shl (by omega) (by omega), Nat.one_mul, pk_sub h3]
  exact hp
theorem n_neg {x : Int32} (h : x < 0) : ¬ 0 ≤ x := by
  rw [Int32.lt_iff_toInt_lt] at h; rw [Int32.le_iff_toInt_le]; omega
theorem p_S_pit : ∀ (n x h : Nat) (post : Int32 → Prop), h ≤ n + 1 → h ≤ 6 → 1 ≤ x → x < 128 → post (nI (pit (n + 1) x h)) → wp_S_placeInTree (n + 1) (nI x) (nI h) post := by
  intro n
  induction n with
  | zero =>
    intro x h post h1 h2 h3 h4 hp
    rw [pit_s, if_pos (by omega)] at hp
    rw [wp_S_placeInTree]
    exact ⟨fun c => absurd c (nI_nlt (b := h) (a := 1) (by omega) (by omega)), fun _ => hp⟩
  | succ n ih =>
    intro x h post h1 h2 h3 h4 hp
    rw [pit_s] at hp
    rw [wp_S_placeInTree]
    by_cases c : h ≤ 1
    · rw [if_pos c] at hp
      exact ⟨fun q => absurd q (nI_nlt (b := h) (a := 1) (by omega) (by omega)), fun _ => hp⟩
    · rw [if_neg c] at hp
      refine ⟨fun _ => ?_, fun q => absurd (nI_lt (a := 1) (b := h) (by omega) (by omega)) q⟩
      have hl := lg_in h3
      have hl6 : Nat.log2 x ≤ 6 := lg_le h3 (by show x < 128; exact h4)
      refine p_S_depthOf hl.1 hl.2 (by omega) ?_
      generalize hd : Nat.log2 x = d at *
      have etop : (nI h + 1) / 2 = nI ((h + 1) / 2) := by rw [nI_1, n_lit2, pk_div (by omega) (by decide) (by decide)]
      rw [etop]
      generalize htop : (h + 1) / 2 = top at *
      by_cases c2 : d < top
      · rw [if_pos c2] at hp
        refine ⟨fun q => absurd q (n_neg (pk_sneg (by omega) c2)), fun _ => ?_⟩
        exact ih x top _ (by omega) (by omega) h3 h4 hp
      · rw [if_neg c2] at hp
        refine ⟨fun _ => ?_, fun q => absurd (by rw [pk_sub (by omega)]; exact nI_pos' (by omega)) q⟩
        have hb6 := n_p6 (show d - top ≤ 6 by omega)
        have hbp := n_pp (d - top)
        have ht6 := n_p6 (show top ≤ 6 by omega)
        have e1 : (1 : Int32) <<< ((nI d - nI top) &&& 31) = nI (2 ^ (d - top)) := by rw [pk_sub (by omega), n_lit1, n_shl (by omega) (by omega), Nat.one_mul]
        have e2 : (1 : Int32) <<< (nI top &&& 31) = nI (2 ^ top) := by rw [n_lit1, n_shl (by omega) (by omega), Nat.one_mul]
        have e3 : nI x >>> ((nI d - nI top) &&& 31) = nI (x / 2 ^ (d - top)) := by rw [pk_sub (by omega), n_shr (by omega) (by omega)]
        have e4 : 2 ^ top ≤ x / 2 ^ (d - top) := by
          rw [Nat.le_div_iff_mul_le hbp, ← Nat.pow_add, show top + (d - top) = d by omega]
          exact hl.1
        have e5 : x % 2 ^ (d - top) < 2 ^ (d - top) := Nat.mod_lt _ hbp
        rw [e1, e2, e3]
        refine ⟨nI_ne0 hbp (by omega), ?_⟩
        refine p_S_nodesOfTree (by omega) ?_
        rw [pk_sub (show top ≤ h by omega), pk_rem (by omega) hbp (by omega), nI_add, pk_sub e4]
        refine p_S_nodesOfTree (by omega) ?_
        refine ih _ _ _ (by omega) (by omega) (by omega) (by omega) ?_
        rw [pk_mul, nI_add, nI_add]
        exact hp
def plo : Nat → Nat → Nat → Nat → Nat → Nat
  | 0, _, _, _, base => base
  | n + 1, x, high, depth, base => if high ≤ 1 then base else if depth < (high + 1) / 2 then plo n x ((high + 1) / 2) depth base else
      plo n x (high - (high + 1) / 2) (depth - (high + 1) / 2) (base + ((2 ^ ((high + 1) / 2) - 1) + (x / 2 ^ (depth - (high + 1) / 2) - x / 2 ^ depth * 2 ^ ((high + 1) / 2)) * (2 ^ (high - (high + 1) / 2) - 1)))
theorem plo_s (n x high depth base : Nat) : plo (n + 1) x high depth base = if high ≤ 1 then base else if depth < (high + 1) / 2 then plo n x ((high + 1) / 2) depth base else
      plo n x (high - (high + 1) / 2) (depth - (high + 1) / 2) (base + ((2 ^ ((high + 1) / 2) - 1) + (x / 2 ^ (depth - (high + 1) / 2) - x / 2 ^ depth * 2 ^ ((high + 1) / 2)) * (2 ^ (high - (high + 1) / 2) - 1))) := rfl
theorem p_M_plo {c0 : Int32} {x : Nat} {post : Int32 → Prop} (hx : x < 128) : ∀ (n high depth base : Nat), high ≤ n + 1 → high ≤ 6 → depth ≤ 6 → post (nI (plo (n + 1) x high depth base)) → wp_M_placeOf_L16 c0 (nI x) post (n + 1) (nI (x / 2 ^ depth)) (nI high) (nI depth) (nI base) := by
  intro n
  induction n with
  | zero =>
    intro high depth base h1 h2 h3 hp
    rw [plo_s, if_pos (by omega)] at hp
    rw [wp_M_placeOf_L16]
    exact ⟨fun _ => hp, fun c => absurd (nI_le (b := 1) (a := high) (by omega) (by omega)) c⟩
  | succ n ih =>
    intro high depth base h1 h2 h3 hp
    rw [plo_s] at hp
    rw [wp_M_placeOf_L16]
    by_cases c : high ≤ 1
    · rw [if_pos c] at hp
      exact ⟨fun _ => hp, fun q => absurd (nI_le (b := 1) (a := high) (by omega) (by omega)) q⟩
    · rw [if_neg c] at hp
      refine ⟨fun q => absurd q (nI_ge (b := high) (a := 1) (by omega) (by omega)), fun _ => ?_⟩
      have etop : (nI high + 1) / 2 = nI ((high + 1) / 2) := by rw [nI_1, n_lit2, pk_div (by omega) (by decide) (by decide)]
      rw [etop]
      generalize htop : (high + 1) / 2 = top at *
      by_cases c2 : depth < top
      · rw [if_pos c2] at hp
        refine ⟨fun _ => ?_, fun q => absurd (nI_lt c2 (by omega)) q⟩
        exact ih top depth base (by omega) (by omega) h3 hp
      · rw [if_neg c2] at hp
        refine ⟨fun q => absurd q (nI_nlt (by omega) (by omega)), fun _ => ?_⟩
        have ht6 := n_p6 (show top ≤ 6 by omega)
        have htp := n_pp top
        have hb6 := n_p6 (show high - top ≤ 6 by omega)
        have hbp := n_pp (high - top)
        have e0 : x / 2 ^ depth * 2 ^ top ≤ x / 2 ^ (depth - top) := by
          have : x / 2 ^ depth = x / 2 ^ (depth - top) / 2 ^ top := by rw [Nat.div_div_eq_div_mul, ← Nat.pow_add, show depth - top + top = depth by omega]
          rw [this]
          exact Nat.div_mul_le_self _ _
        have e00 : x / 2 ^ (depth - top) ≤ x := Nat.div_le_self _ _
        have e1 : (1 : Int32) <<< (nI top &&& 31) = nI (2 ^ top) := by rw [n_lit1, n_shl (by omega) (by omega), Nat.one_mul]
        have e2 : nI x >>> ((nI depth - nI top) &&& 31) = nI (x / 2 ^ (depth - top)) := by rw [pk_sub (by omega), n_shr (by omega) (by omega)]
        have e3 : nI (x / 2 ^ depth) <<< (nI top &&& 31) = nI (x / 2 ^ depth * 2 ^ top) := n_shl (by omega) (by omega)
        have e4 : (1 : Int32) <<< ((nI high - nI top) &&& 31) = nI (2 ^ (high - top)) := by rw [pk_sub (by omega), n_lit1, n_shl (by omega) (by omega), Nat.one_mul]
        rw [e1, e2, e3, e4, pk_sub (show top ≤ high by omega), pk_sub (show top ≤ depth by omega), n_lit1, pk_sub htp, pk_sub hbp, pk_sub e0, pk_mul, nI_add, nI_add]
        exact ih _ _ _ (by omega) (by omega) (by omega) hp
theorem pit_plo : ∀ t, t < 7 → ∀ x, x < 64 → 1 ≤ x → x < 2 ^ t → pit 8 x t = plo 8 x t (Nat.log2 x) 0 ∧ pit 8 x t < 64 := by decide +kernel
theorem p_M_placeOf {t x : Nat} {post : Int32 → Prop} (ht : t ≤ 6) (h1 : 1 ≤ x) (h2 : x < 2 ^ t) (h : post (nI (pit 8 x t))) : wp_M_placeOf (nI (8 * 2 ^ t)) (nI x) post := by
  have hp := n_p6 ht
  have hl := lg_in h1
  have hl5 : Nat.log2 x ≤ 5 := lg_le h1 (show x < 64 by omega)
  unfold wp_M_placeOf
  refine p_M_levels ht ?_
  refine p_M_levelOf hl.1 hl.2 (by omega) ?_
  refine ⟨8, ?_⟩
  rw [(pit_plo t (by omega) x (by omega) h1 h2).1] at h
  have e : nI (x / 2 ^ Nat.log2 x) = 1 := by
    have : x / 2 ^ Nat.log2 x = 1 := by
      rw [Nat.div_eq_iff (n_pp _)]
      have := hl.2
      rw [n_p1] at this
      omega
    rw [this]; rfl
  have := p_M_plo (c0 := nI (8 * 2 ^ t)) (post := post) (x := x) (by omega) 7 t (Nat.log2 x) 0 (by omega) ht (by omega) h
  rw [e] at this
  exact this
theorem p_S_pit8 {t x : Nat} {post : Int32 → Prop} (ht : t ≤ 6) (h1 : 1 ≤ x) (h2 : x < 2 ^ t) (h : post (nI (pit 8 x t))) : wp_S_placeInTree 8 (nI x) (nI t) post := by
  have hp := n_p6 ht
  exact p_S_pit 7 x t post (by omega) ht h1 (by omega) h
theorem pit_lt : ∀ t, t < 7 → ∀ x, x < 64 → 1 ≤ x → x < 2 ^ t → pit 8 x t < 2 ^ t := by decide +kernel
theorem pit_inj0 : ∀ t, t < 7 → ∀ x, x < 64 → ∀ y, y < 64 → (1 ≤ x ∧ x < 2 ^ t ∧ 1 ≤ y ∧ y < 2 ^ t ∧ pit 8 x t = pit 8 y t) → x = y := by decide +kernel
theorem pit_inj (t : Nat) (ht : t < 7) (x : Nat) (hx : x < 64) (x1 : 1 ≤ x) (x2 : x < 2 ^ t) (y : Nat) (hy : y < 64) (y1 : 1 ≤ y) (y2 : y < 2 ^ t) (e : pit 8 x t = pit 8 y t) : x = y := pit_inj0 t ht x hx y hy ⟨x1, x2, y1, y2, e⟩
theorem p_place {t : Nat} {a : Int32} (ht : t ≤ 6) : ∃ r : Int32, (∀ post : Int32 → Prop, post r → wp_S_place (nI t) a post) ∧ (∀ post : Int32 → Prop, post r → wp_M_place (nI (8 * 2 ^ t)) a post) := by
  have hp := n_p6 ht
  have out : (a < 1 ∨ nI (2 ^ t) ≤ a) → ∃ r : Int32, (∀ post : Int32 → Prop, post r → wp_S_place (nI t) a post) ∧ (∀ post : Int32 → Prop, post r → wp_M_place (nI (8 * 2 ^ t)) a post) := by
    intro c
    refine ⟨-1, fun post h => ?_, fun post h => ?_⟩
    · unfold wp_S_place
      refine ⟨fun _ => h, fun c1 => p_S_segments ht ⟨fun c2 => ?_, fun _ => h⟩⟩
      rcases c with c | c
      · exact absurd c c1
      · rw [Int32.lt_iff_toInt_lt] at c2; rw [Int32.le_iff_toInt_le] at c; omega
    · unfold wp_M_place wp_M_isNode
      refine ⟨fun _ => ⟨fun _ => h, fun q => absurd rfl q⟩, fun c1 => p_M_segments ht ⟨fun _ => ⟨fun _ => h, fun q => absurd rfl q⟩, fun c2 => ?_⟩⟩
      rcases c with c | c
      · exact absurd c c1
      · exact absurd c c2
  by_cases c1 : a < 1
  · exact out (Or.inl c1)
  · by_cases c2 : nI (2 ^ t) ≤ a
    · exact out (Or.inr c2)
    · have c0 : ¬ a < 0 := by
        intro q; apply c1
        rw [Int32.lt_iff_toInt_lt] at q ⊢
        have z0 : (0 : Int32).toInt = 0 := by decide
        have z1 : (1 : Int32).toInt = 1 := by decide
        omega
      obtain ⟨x, hx, rfl⟩ := nI_of c0
      have h1 : 1 ≤ x := by
        rcases Nat.lt_or_ge x 1 with q | q
        · exact absurd (nI_lt (b := 1) q (by decide)) c1
        · exact q
      have h2 : x < 2 ^ t := by
        rcases Nat.lt_or_ge x (2 ^ t) with q | q
        · exact q
        · exact absurd (nI_le q hx) c2
      refine ⟨nI (pit 8 x t), fun post h => ?_, fun post h => ?_⟩
      · unfold wp_S_place
        exact ⟨fun q => absurd q c1, fun _ => p_S_segments ht ⟨fun _ => p_S_pit8 ht h1 h2 h, fun q => absurd (nI_lt h2 (by omega)) q⟩⟩
      · unfold wp_M_place wp_M_isNode
        exact ⟨fun q => absurd q c1, fun _ => p_M_segments ht ⟨fun q => absurd q c2, fun _ => ⟨fun q => absurd q (by decide), fun _ => p_M_placeOf ht h1 h2 h⟩⟩⟩
theorem p_borne {K : Nat → Int64} {F : Nat → Int32} {J : Nat → Int64} {t : Nat} {a : Int32} (hR : Rm K F J) (ht : t ≤ 6) (ht1 : 1 ≤ t) : ∃ r : Int64, (∀ post : Int64 → Prop, post r → wp_S_borne K (nI t) a post) ∧ (∀ post : Int64 → Prop, post r → wp_M_borne (nI (8 * 2 ^ t)) F J a post) := by
  have hp := n_p6 ht
  have hpp := n_pp t
  have lgt : ∀ x, 1 ≤ x → x < 2 ^ t → Nat.log2 x < t := fun x h1 h2 => by
    have := lg_le (n := t - 1) h1 (by rw [show t - 1 + 1 = t by omega]; exact h2)
    omega
  by_cases c : ∃ x, 1 ≤ x ∧ x < 2 ^ t ∧ nI (pit 8 x t) = a
  · obtain ⟨x0, h1, h2, h3⟩ := c
    have uq : ∀ y, 1 ≤ y → y < 2 ^ t → y ≠ x0 → ¬ nI (pit 8 y t) = a := by
      intro y y1 y2 y3 y4
      rw [← h3] at y4
      have b1 := (pit_plo t (by omega) y (by omega) y1 y2).2
      have b2 := (pit_plo t (by omega) x0 (by omega) h1 h2).2
      rw [nI_eq (by omega) (by omega)] at y4
      exact y3 (pit_inj t (by omega) y (by omega) y1 y2 x0 (by omega) h1 h2 y4)
    have hl := lg_in h1
    refine ⟨bear K t (Nat.log2 x0) x0, fun post h => ?_, fun post h => ?_⟩
    · have key : ∀ k x, x + k = x0 → 1 ≤ x → wp_S_borne_L2 K (nI t) a post (k + 1) (nI x) := by
        intro k
        induction k with
        | zero =>
          intro x e hx
          obtain rfl : x = x0 := by omega
          rw [wp_S_borne_L2]
          refine p_S_segments ht ⟨fun q => absurd q (nI_ge h2 (by omega)), fun _ => ?_⟩
          refine p_S_pit8 ht h1 h2 ⟨fun _ => ?_, fun q => absurd h3 q⟩
          exact p_S_borneBy ht (lgt x h1 h2) hl.1 hl.2 h
        | succ k ih =>
          intro x e hx
          rw [wp_S_borne_L2]
          refine p_S_segments ht ⟨fun q => absurd q (nI_ge (by omega) (by omega)), fun _ => ?_⟩
          refine p_S_pit8 ht hx (by omega) ⟨fun q => absurd q (uq x hx (by omega) (by omega)), fun _ => ?_⟩
          rw [nI_1]
          exact ih (x + 1) (by omega) (by omega)
      unfold wp_S_borne
      exact ⟨_, key (x0 - 1) 1 (by omega) (Nat.le_refl 1)⟩
    · have key : ∀ k x (acc : Int64), x + k = 2 ^ t → 1 ≤ x → (x0 < x → acc = bear K t (Nat.log2 x0) x0) → wp_M_borne_L7 (nI (8 * 2 ^ t)) F J a post (k + 1) acc (nI x) := by
        intro k
        induction k with
        | zero =>
          intro x acc e hx hacc
          obtain rfl : x = 2 ^ t := by omega
          rw [wp_M_borne_L7]
          refine p_M_segments ht ⟨fun _ => ?_, fun q => absurd (nI_le (Nat.le_refl _) (by omega)) q⟩
          rw [hacc h2]
          exact h
        | succ k ih =>
          intro x acc e hx hacc
          rw [wp_M_borne_L7]
          refine p_M_segments ht ⟨fun q => absurd q (nI_ge (by omega) (by omega)), fun _ => ?_⟩
          rw [nI_1]
          have hlx := lg_in hx
          refine p_M_placeOf ht hx (by omega) ⟨fun q => ?_, fun q => ?_⟩
          · have ex : x = x0 := Classical.byContradiction (fun z => uq x hx (by omega) z q)
            refine p_M_bears hR ht (lgt x hx (by omega)) hlx.1 hlx.2 ?_
            exact ih (x + 1) _ (by omega) (by omega) (fun _ => by rw [ex])
          · have ex : x ≠ x0 := fun z => q (by rw [z]; exact h3)
            exact ih (x + 1) acc (by omega) (by omega) (fun z => hacc (by omega))
      unfold wp_M_borne
      exact ⟨_, key (2 ^ t - 1) 1 NOK (by omega) (Nat.le_refl 1) (fun z => absurd z (by omega))⟩
  · have uq : ∀ y, 1 ≤ y → y < 2 ^ t → ¬ nI (pit 8 y t) = a := fun y y1 y2 y3 => c ⟨y, y1, y2, y3⟩
    refine ⟨NOK, fun post h => ?_, fun post h => ?_⟩
    · have key : ∀ k x, x + k = 2 ^ t → 1 ≤ x → wp_S_borne_L2 K (nI t) a post (k + 1) (nI x) := by
        intro k
        induction k with
        | zero =>
          intro x e hx
          obtain rfl : x = 2 ^ t := by omega
          rw [wp_S_borne_L2]
          exact p_S_segments ht ⟨fun _ => h, fun q => absurd (nI_le (Nat.le_refl _) (by omega)) q⟩
        | succ k ih =>
          intro x e hx
          rw [wp_S_borne_L2]
          refine p_S_segments ht ⟨fun q => absurd q (nI_ge (by omega) (by omega)), fun _ => ?_⟩
          refine p_S_pit8 ht hx (by omega) ⟨fun q => absurd q (uq x hx (by omega)), fun _ => ?_⟩
          rw [nI_1]
          exact ih (x + 1) (by omega) (by omega)
      unfold wp_S_borne
      exact ⟨_, key (2 ^ t - 1) 1 (by omega) (Nat.le_refl 1)⟩
    · have key : ∀ k x, x + k = 2 ^ t → 1 ≤ x → wp_M_borne_L7 (nI (8 * 2 ^ t)) F J a post (k + 1) NOK (nI x) := by
        intro k
        induction k with
        | zero =>
          intro x e hx
          obtain rfl : x = 2 ^ t := by omega
          rw [wp_M_borne_L7]
          exact p_M_segments ht ⟨fun _ => h, fun q => absurd (nI_le (Nat.le_refl _) (by omega)) q⟩
        | succ k ih =>
          intro x e hx
          rw [wp_M_borne_L7]
          refine p_M_segments ht ⟨fun q => absurd q (nI_ge (by omega) (by omega)), fun _ => ?_⟩
          rw [nI_1]
          exact p_M_placeOf ht hx (by omega) ⟨fun q => absurd q (uq x hx (by omega)), fun _ => ih (x + 1) (by omega) (by omega)⟩
      unfold wp_M_borne
      exact ⟨_, key (2 ^ t - 1) 1 (by omega) (Nat.le_refl 1)⟩
