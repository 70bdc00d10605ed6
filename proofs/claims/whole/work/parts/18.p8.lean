/-! The reference's windows: lifting, joining, spreading. -/
theorem nz0 : vp_nar .boolean 0 = 0 := by decide +kernel
theorem nz1 : vp_nar .boolean 1 = 1 := by decide +kernel
theorem p_M_firstOf {x h : Nat} {post : Int32 → Prop} (hx : x < 64) (hh : h ≤ 6) (hp : post (nI (wf x h))) : wp_M_firstOf (nI x) (nI h) post := by
  unfold wp_M_firstOf
  have h1 := n_p6 hh
  have h2 : x / 2 ^ h * 2 ^ h ≤ x := Nat.div_mul_le_self _ _
  rw [n_shr (by omega) (by omega), n_shl (by omega) (by omega), n_lit8, pk_mul]
  have e : x / 2 ^ h * 2 ^ h * 8 = wf x h := by unfold wf; rw [Nat.mul_assoc, Nat.mul_comm (2 ^ h) 8]
  rw [e]
  exact hp
theorem p_M_w {h : Nat} (hh : h ≤ 6) : (8 : Int32) <<< (nI h &&& 31) = nI (8 * 2 ^ h) := by
  have h1 := n_p6 hh
  rw [n_lit8, n_shl (by omega) (by omega)]
theorem p_M_most {t h : Nat} {post : Int32 → Prop} (ht : t ≤ 6) (hh : h ≤ t) (ht1 : 1 ≤ t) (hp : post (nI (mostF t h))) : wp_M_most (nI (8 * 2 ^ t)) (nI h) post := by
  have hm := n_mf ht hh ht1
  unfold wp_M_most
  refine p_M_levels ht ?_
  rw [p_M_w (by omega), n_lit4, pk_mul, pk_sub (by omega), pk_mul, pk_div (by omega) (by omega) (by omega)]
  exact ⟨nI_ne0 (by omega) (by omega), hp⟩
theorem p_M_fewest {t h : Nat} {post : Int32 → Prop} (ht : t ≤ 6) (hh : h ≤ t) (ht1 : 1 ≤ t) (hp : post (nI (fewF t h))) : wp_M_fewest (nI (8 * 2 ^ t)) (nI h) post := by
  have hm := n_mf ht hh ht1
  unfold wp_M_fewest
  refine p_M_levels ht ?_
  rw [p_M_w (by omega), n_lit8, pk_mul, nI_add, pk_mul, nI_add, n_lit1, pk_sub (by omega), pk_div (by omega) (by omega) (by omega)]
  exact ⟨nI_ne0 (by omega) (by omega), hp⟩
theorem p_M_lift {K V : Nat → Int64} {F : Nat → Int32} {J G wk wv : Nat → Int64} {a w : Nat} (hR : Rm K F J) (hV : ∀ i, i < 512 → K i ≠ NOK → G i = V i) (hw : a + w ≤ 512) :
    ∃ F2 wk2 wv2, (∀ q, a ≤ q → q < a + w → F2 q = 0) ∧ (∀ q, q < a ∨ a + w ≤ q → F2 q = F q) ∧ (∀ j, j < w → K (a + j) ≠ NOK → wk2 (cnt K a j) = K (a + j) ∧ wv2 (cnt K a j) = V (a + j)) ∧
      ∀ post : (Nat → Int32) → Int32 → (Nat → Int64) → (Nat → Int64) → Prop, post F2 (nI (cnt K a w)) wk2 wv2 → wp_M_lift F J G (nI 0) wk wv (nI a) (nI w) post := by
  have key : ∀ k i F' wk' wv', i + k = w → (∀ q, a ≤ q → q < a + i → F' q = 0) → (∀ q, q < a ∨ a + i ≤ q → F' q = F q) → (∀ j, j < i → K (a + j) ≠ NOK → wk' (cnt K a j) = K (a + j) ∧ wv' (cnt K a j) = V (a + j)) →
      ∃ F2 wk2 wv2, (∀ q, a ≤ q → q < a + w → F2 q = 0) ∧ (∀ q, q < a ∨ a + w ≤ q → F2 q = F q) ∧ (∀ j, j < w → K (a + j) ≠ NOK → wk2 (cnt K a j) = K (a + j) ∧ wv2 (cnt K a j) = V (a + j)) ∧
        ∀ post : (Nat → Int32) → Int32 → (Nat → Int64) → (Nat → Int64) → Prop, post F2 (nI (cnt K a w)) wk2 wv2 → wp_M_lift_L2 J G (nI a) (nI w) post (k + 1) (nI (a + i)) F' (nI (cnt K a i)) wk' wv' := by
    intro k
    induction k with
    | zero =>
      intro i F' wk' wv' e h1 h2 h3
      obtain rfl : i = w := by omega
      refine ⟨F', wk', wv', h1, h2, h3, fun post h => ?_⟩
      rw [wp_M_lift_L2, nI_add]
      exact ⟨fun _ => h, fun c => absurd (nI_le (Nat.le_refl _) (by omega)) c⟩
    | succ k ih =>
      intro i F' wk' wv' e h1 h2 h3
      have hl := cnt_le K a i
      obtain ⟨r1, r2⟩ := hR (a + i) (by omega)
      have e1 := h2 (a + i) (by omega)
      by_cases c : F (a + i) = 0
      · have c1 := r1.mp c
        obtain ⟨F2, wk2, wv2, f1, f2, f3, f4⟩ := ih (i + 1) F' wk' wv' (by omega) (fun q q1 q2 => by
            rcases Nat.lt_or_ge q (a + i) with z | z
            · exact h1 q q1 z
            · obtain rfl : q = a + i := by omega
              rw [e1]; exact c) (fun q hq => h2 q (by omega)) (fun j hj hf => by
            have : j ≠ i := fun z => hf (by rw [z]; exact c1)
            exact h3 j (by omega) hf)
        refine ⟨F2, wk2, wv2, f1, f2, f3, fun post h => ?_⟩
        have this := f4 post h
        rw [cnt_s, if_pos c1] at this
        rw [wp_M_lift_L2, nI_add, nI_clamp (show a + i < 2 ^ 31 by omega), nI_1, e1]
        exact ⟨fun c => absurd c (nI_ge (by omega) (by omega)), fun _ => ⟨vp_in_nI (by omega) (by decide), fun _ => this, fun z => absurd c z⟩⟩
      · have c1 : K (a + i) ≠ NOK := fun q => c (r1.mpr q)
        obtain ⟨F2, wk2, wv2, f1, f2, f3, f4⟩ := ih (i + 1) (upd F' (a + i) 0) (vp_updL wk' (cnt K a i) (J (a + i))) (vp_updL wv' (cnt K a i) (G (a + i))) (by omega) (fun q q1 q2 => by
            rcases Nat.lt_or_ge q (a + i) with z | z
            · rw [pk_un (by omega)]; exact h1 q q1 z
            · obtain rfl : q = a + i := by omega
              exact pk_us) (fun q hq => by
            rw [pk_un (by omega)]; exact h2 q (by omega)) (fun j hj hf => by
            rcases Nat.lt_or_ge j i with z | z
            · have hc := cnt_full hf z
              rw [pk_uLn (by omega), pk_uLn (by omega)]
              exact h3 j z hf
            · obtain rfl : j = i := by omega
              rw [pk_uLs, pk_uLs, r2 c1, hV _ (by omega) c1]
              exact ⟨rfl, rfl⟩)
        refine ⟨F2, wk2, wv2, f1, f2, f3, fun post h => ?_⟩
        have this := f4 post h
        rw [cnt_s, if_neg c1] at this
        rw [wp_M_lift_L2, nI_add, nI_clamp (show a + i < 2 ^ 31 by omega), nI_clamp (show cnt K a i < 2 ^ 31 by omega), nI_1, nI_1, e1, nz0]
        exact ⟨fun c => absurd c (nI_ge (by omega) (by omega)), fun _ => ⟨vp_in_nI (by omega) (by decide), fun z => absurd z c, fun _ => ⟨vp_in_nI (by omega) (by decide), this⟩⟩⟩
  unfold wp_M_lift
  obtain ⟨F2, wk2, wv2, f1, f2, f3, f4⟩ := key w 0 F wk wv (by omega) (fun q h1 h2 => absurd h2 (by omega)) (fun q _ => rfl) (fun j hj => absurd hj (by omega))
  exact ⟨F2, wk2, wv2, f1, f2, f3, fun post h => ⟨_, f4 post h⟩⟩
theorem p_M_join {wk wv : Nat → Int64} {n : Nat} {key v : Int64} (hn : n ≤ 512) :
    ∃ wk2 wv2, (∀ j, j ≤ n → wk2 j = kI wk key (ip wk key n) j ∧ wv2 j = kI wv v (ip wk key n) j) ∧ ∀ post : Int32 → (Nat → Int64) → (Nat → Int64) → Prop, post (nI (n + 1)) wk2 wv2 → wp_M_join (nI n) wk wv key v post := by
  have fin : ∀ c wk' wv', c ≤ n → ip wk key n = c → (∀ j, j < c → wk' j = wk j ∧ wv' j = wv j) → (∀ j, c ≤ j → j < n → wk' (j + 1) = wk j ∧ wv' (j + 1) = wv j) → ∀ j, j ≤ n → vp_updL wk' c key j = kI wk key (ip wk key n) j ∧ vp_updL wv' c v j = kI wv v (ip wk key n) j := by
    intro c wk' wv' hc hip h1 h2 j hj
    rw [hip]
    unfold kI
    rcases Nat.lt_trichotomy j c with q | q | q
    · rw [if_pos q, if_pos q, pk_uLn (by omega), pk_uLn (by omega)]
      exact h1 j q
    · rw [if_neg (show ¬ j < c by omega), if_pos q, if_neg (show ¬ j < c by omega), if_pos q, q, pk_uLs, pk_uLs]
      exact ⟨rfl, rfl⟩
    · rw [if_neg (by omega), if_neg (by omega), if_neg (by omega), if_neg (by omega), pk_uLn (by omega), pk_uLn (by omega)]
      have := h2 (j - 1) (by omega) (by omega)
      rw [show j - 1 + 1 = j by omega] at this
      exact this
  have key2 : ∀ c wk' wv', c ≤ n → ip wk key n = ip wk key c → (∀ j, j < c → wk' j = wk j ∧ wv' j = wv j) → (∀ j, c ≤ j → j < n → wk' (j + 1) = wk j ∧ wv' (j + 1) = wv j) →
      ∃ wk2 wv2, (∀ j, j ≤ n → wk2 j = kI wk key (ip wk key n) j ∧ wv2 j = kI wv v (ip wk key n) j) ∧ ∀ post : Int32 → (Nat → Int64) → (Nat → Int64) → Prop, post (nI (n + 1)) wk2 wv2 → wp_M_join_L6 key v post (c + 1) (nI c) (nI n) wk' wv' := by
    intro c
    induction c with
    | zero =>
      intro wk' wv' hc hip h1 h2
      refine ⟨_, _, fin 0 wk' wv' hc hip h1 h2, fun post h => ?_⟩
      rw [wp_M_join_L6, nI_clamp (show 0 < 2 ^ 31 by decide), nI_1]
      exact ⟨fun _ => ⟨vp_in_nI (by decide) (by decide), h⟩, fun q => absurd (nI_le (a := 0) (b := 0) (by omega) (by omega)) q⟩
    | succ c ih =>
      intro wk' wv' hc hip h1 h2
      obtain ⟨e1, e2⟩ := h1 c (by omega)
      rw [ip_s] at hip
      by_cases q : wk c ≤ key
      · rw [if_pos q] at hip
        refine ⟨_, _, fin (c + 1) wk' wv' hc hip h1 h2, fun post h => ?_⟩
        rw [wp_M_join_L6, nI_pred c, nI_clamp (show c + 1 < 2 ^ 31 by omega), nI_clamp (show c < 2 ^ 31 by omega), e1, nI_1]
        exact ⟨fun q => absurd q (nI_ge (a := 0) (by omega) (by omega)), fun _ => ⟨vp_in_nI (by omega) (by decide), fun _ => ⟨vp_in_nI (by omega) (by decide), h⟩, fun z => absurd q z⟩⟩
      · rw [if_neg q] at hip
        obtain ⟨wk2, wv2, f1, f2⟩ := ih (vp_updL wk' (c + 1) (wk c)) (vp_updL wv' (c + 1) (wv c)) (by omega) hip (fun j hj => by
            rw [pk_uLn (by omega), pk_uLn (by omega)]
            exact h1 j (by omega)) (fun j hj hj2 => by
            rcases Nat.lt_or_ge c j with z | z
            · rw [pk_uLn (by omega), pk_uLn (by omega)]
              exact h2 j (by omega) hj2
            · obtain rfl : j = c := by omega
              rw [pk_uLs, pk_uLs]
              exact ⟨rfl, rfl⟩)
        refine ⟨wk2, wv2, f1, fun post h => ?_⟩
        rw [wp_M_join_L6, nI_pred c, nI_clamp (show c + 1 < 2 ^ 31 by omega), nI_clamp (show c < 2 ^ 31 by omega), e1, e2, pk_m1 c]
        exact ⟨fun q => absurd q (nI_ge (a := 0) (by omega) (by omega)), fun _ => ⟨vp_in_nI (by omega) (by decide), fun z => absurd z q, fun _ => ⟨vp_in_nI (by omega) (by decide), f2 post h⟩⟩⟩
  unfold wp_M_join
  obtain ⟨wk2, wv2, f1, f2⟩ := key2 n wk wv (Nat.le_refl n) rfl (fun j _ => ⟨rfl, rfl⟩) (fun j h1 h2 => absurd h2 (by omega))
  exact ⟨wk2, wv2, f1, fun post h => ⟨n + 1, f2 post h⟩⟩
/-- the reference's row wk, wv of n is spread over the w cells at a -/
def ArM (F0 : Nat → Int32) (J0 G0 : Nat → Int64) (a w n : Nat) (f g : Nat → Int64) (F' : Nat → Int32) (J' G' : Nat → Int64) : Prop :=
  (∀ j, j < n → F' (a + j * w / n) = 1 ∧ J' (a + j * w / n) = f j ∧ G' (a + j * w / n) = g j) ∧ (∀ p, p < w → (∀ j, j < n → p ≠ j * w / n) → F' (a + p) = F0 (a + p)) ∧ (∀ q, q < a ∨ a + w ≤ q → F' q = F0 q ∧ J' q = J0 q ∧ G' q = G0 q)
theorem p_M_spread {F : Nat → Int32} {J G wk wv : Nat → Int64} {wi : Int32} {mo : Int64} {a h n : Nat} (hh : h ≤ 6) (hw : a + 8 * 2 ^ h ≤ 512) (hn : n ≤ 8 * 2 ^ h) :
    ∃ F2 J2 G2, ArM F J G a (8 * 2 ^ h) n wk wv F2 J2 G2 ∧ ∀ post : (Nat → Int32) → (Nat → Int64) → (Nat → Int64) → Int32 → Int64 → Int32 → Prop, post F2 J2 G2 (nI h) (mo + (nI n).toInt64) (nI 0) → wp_M_spread F J G wi mo (nI n) wk wv (nI a) (nI h) post := by
  have hp := n_p6 hh
  unfold wp_M_spread
  rw [p_M_w hh]
  generalize hww : 8 * 2 ^ h = w at *
  have key : ∀ k i F' J' G', i + k = n → (∀ j, j < i → F' (a + j * w / n) = 1 ∧ J' (a + j * w / n) = wk j ∧ G' (a + j * w / n) = wv j) → (∀ p, p < w → (∀ j, j < i → p ≠ j * w / n) → F' (a + p) = F (a + p)) → (∀ q, q < a ∨ a + w ≤ q → F' q = F q ∧ J' q = J q ∧ G' q = G q) →
      ∃ F2 J2 G2, ArM F J G a w n wk wv F2 J2 G2 ∧ ∀ post : (Nat → Int32) → (Nat → Int64) → (Nat → Int64) → Int32 → Int64 → Int32 → Prop, post F2 J2 G2 (nI h) (mo + (nI n).toInt64) (nI 0) → wp_M_spread_L8 wk wv (nI a) (nI h) (nI w) post (k + 1) (nI i) F' J' G' wi mo (nI n) := by
    intro k
    induction k with
    | zero =>
      intro i F' J' G' e h1 h2 h3
      obtain rfl : i = n := by omega
      refine ⟨F', J', G', ⟨h1, h2, h3⟩, fun post hpost => ?_⟩
      rw [wp_M_spread_L8]
      exact ⟨fun _ => hpost, fun c => absurd (nI_le (Nat.le_refl _) (by omega)) c⟩
    | succ k ih =>
      intro i F' J' G' e h1 h2 h3
      have n0 : 0 < n := by omega
      have g2 := tj_in (i := i) n0 hn (by omega)
      have g0 := Nat.le_add_right a (i * w / n)
      have hiw : i * w ≤ 512 * 512 := Nat.mul_le_mul (by omega) (by omega)
      obtain ⟨F2, J2, G2, f1, f2⟩ := ih (i + 1) (upd F' (a + i * w / n) 1) (vp_updL J' (a + i * w / n) (wk i)) (vp_updL G' (a + i * w / n) (wv i)) (by omega) (fun j hj => by
          rcases Nat.lt_or_ge j i with z | z
          · have g3 := tj_lt n0 hn z
            rw [pk_un (by omega), pk_uLn (by omega), pk_uLn (by omega)]
            exact h1 j z
          · obtain rfl : j = i := by omega
            rw [pk_us, pk_uLs, pk_uLs]
            exact ⟨rfl, rfl, rfl⟩) (fun p hp1 hq => by
          have g3 := hq i (by omega)
          rw [pk_un (by omega)]
          exact h2 p hp1 (fun j hj => hq j (by omega))) (fun q hq => by
          rw [pk_un (by omega), pk_uLn (by omega), pk_uLn (by omega)]
          exact h3 q hq)
      refine ⟨F2, J2, G2, f1, fun post hpost => ?_⟩
      rw [wp_M_spread_L8, pk_mul, pk_div (by omega) n0 (by omega), nI_add, nI_clamp (show a + i * w / n < 2 ^ 31 by omega), nI_clamp (show i < 2 ^ 31 by omega), nI_1, nz1]
      exact ⟨fun c => absurd c (nI_ge (by omega) (by omega)), fun _ => ⟨nI_ne0 n0 (by omega), vp_in_nI (by omega) (by decide), vp_in_nI (by omega) (by decide), f2 post hpost⟩⟩
  obtain ⟨F2, J2, G2, f1, f2⟩ := key n 0 F J G (by omega) (fun j hj => absurd hj (by omega)) (fun p _ _ => rfl) (fun q _ => ⟨rfl, rfl, rfl⟩)
  exact ⟨F2, J2, G2, f1, fun post hpost => ⟨_, f2 post hpost⟩⟩
