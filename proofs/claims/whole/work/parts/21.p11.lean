/-! remove, drop, fill: the two sides stay together. -/
theorem again_ok {K V : Nat → Int64} {t t' l0 : Nat} {F : Nat → Int32} {J G : Nat → Int64} {a w h : Nat} {lh : Int32} {mv : Int64} {wk wv : Nat → Int64}
    (hR0 : Rl K V t l0 F J G) (htt : t' ≤ t) (hl : l0 ≤ t') (hh : h ≤ 6) (haw : a + w ≤ 512) (hw : 8 * 2 ^ h ≤ w) (hn : cnt K a w ≤ 8 * 2 ^ h)
    (hc1 : ∀ i, 8 * 2 ^ t' ≤ i → i < 512 → a + 8 * 2 ^ h ≤ i) (hc2 : ∀ i, 8 * 2 ^ t' ≤ i → a + w ≤ i → 8 * 2 ^ t ≤ i) :
    ∃ K2 V2 F2 J2 G2 wk2 wv2, Rl K2 V2 t' l0 F2 J2 G2 ∧
      (∀ post : (Nat → Int64) → (Nat → Int64) → Int32 → Int64 → Prop, post K2 V2 (nI h) (mv + (nI (cnt K a w)).toInt64) → wp_S_pack K V (nI a) (nI w) (fun r K1 V1 => wp_S_spreadPacked K1 V1 lh mv (nI a) (nI h) r post)) ∧
      (∀ post : (Nat → Int32) → (Nat → Int64) → (Nat → Int64) → Int32 → Int64 → Int32 → (Nat → Int64) → (Nat → Int64) → Prop, post F2 J2 G2 (nI h) (mv + (nI (cnt K a w)).toInt64) (nI 0) wk2 wv2 →
        wp_M_lift F J G (nI 0) wk wv (nI a) (nI w) (fun F1 wa1 wk1 wv1 => wp_M_spread F1 J G lh mv wa1 wk1 wv1 (nI a) (nI h) (fun F' J' G' wi' mo' wa' => post F' J' G' wi' mo' wa' wk1 wv1))) := by
  obtain ⟨r1, r2, r3, hs, hout, hR, hV⟩ := hR0
  obtain ⟨K2, V2, a1, a2, a3, hS⟩ := S_again (K := K) (V := V) (a := a) (w := w) (h := h) (lh := lh) (mv := mv) hh haw hw hn
  obtain ⟨F1, F2, J2, G2, wk2, wv2, m1, m2, hM, hMw⟩ := M_again (wk := wk) (wv := wv) (a := a) (w := w) (h := h) (wi := lh) (mo := mv) hR hV hh haw (by omega) hn
  have hrow : ∀ j, j < cnt K a w → row K K a w j ≠ NOK ∧ ∃ i, i < w ∧ K (a + i) = row K K a w j ∧ cnt K a i = j := fun j hj => row_full hj
  have k2' : ∀ p, p < w ∨ p < 8 * 2 ^ h → (∀ j, j < cnt K a w → p ≠ j * (8 * 2 ^ h) / (cnt K a w)) → K2 (a + p) = NOK := fun p hp hq => a2 p (by omega) hq
  have k3' : ∀ q, q < a ∨ (a + w ≤ q ∧ a + 8 * 2 ^ h ≤ q) → K2 q = K q ∧ V2 q = V q := fun q hq => a3 q (by omega)
  have hti := tie (K' := K2) (V' := V2) (F' := F2) (J' := J2) (G' := G2) (W1 := 8 * 2 ^ h) (n := cnt K a w) hR hV (fun j hj => (hrow j hj).1) (fun _ => hn) a1 k2' k3' m1 m2 (fun q q1 q2 => absurd q1 (by omega)) hM
  have hsr : Srt K2 := by
    refine srt_ar (K := K) (K' := K2) (a := a) (w := w) (W1 := 8 * 2 ^ h) (n := cnt K a w) hs (fun _ => hn) (row_rise hs haw) (fun j hj => (a1 j hj).1) k2' (fun q hq => (k3' q hq).1) ?_ ?_
    · intro q j hq hf hj
      obtain ⟨z1, i, z2, z3, z4⟩ := hrow j hj
      rw [← z3] at z1 ⊢
      exact hs q (a + i) (by omega) (by omega) hf z1
    · intro q j hq hq2 hf hj
      obtain ⟨z1, i, z2, z3, z4⟩ := hrow j hj
      rw [← z3] at z1 ⊢
      exact hs (a + i) q (by omega) hq2 z1 hf
  refine ⟨K2, V2, F2, J2, G2, wk2, wv2, ⟨r1, hl, by omega, hsr, fun i hi hi2 => ?_, hti.1, hti.2⟩, hS, hMw⟩
  have z1 := hc1 i hi hi2
  rcases Nat.lt_or_ge i (a + w) with z | z
  · obtain ⟨p, rfl⟩ : ∃ p, i = a + p := ⟨i - a, by omega⟩
    refine a2 p (by omega) (fun j hj e => ?_)
    have := tj_in (w := 8 * 2 ^ h) (show 0 < cnt K a w by omega) hn hj
    omega
  · rw [(a3 i (by omega)).1]
    exact hout i (hc2 i hi z) hi2
theorem clear_ok {K V : Nat → Int64} {t l0 : Nat} {F : Nat → Int32} {J G : Nat → Int64} {i : Nat} (hR0 : Rl K V t l0 F J G) (hi : i < 8 * 2 ^ t) : Rl (vp_updL K i NOK) (vp_updL V i 0) t l0 (upd F i 0) J G := by
  obtain ⟨r1, r2, r3, hs, hout, hR, hV⟩ := hR0
  have ne : ∀ j, vp_updL K i NOK j ≠ NOK → j ≠ i := fun j hj e => hj (by rw [e]; exact pk_uLs)
  refine ⟨r1, r2, r3, fun a b hab hb fa fb => ?_, fun j h1 h2 => ?_, fun j hj => ?_, fun j hj hf => ?_⟩
  · have ea := ne a fa
    have eb := ne b fb
    rw [pk_uLn ea] at fa ⊢
    rw [pk_uLn eb] at fb ⊢
    exact hs a b hab hb fa fb
  · rw [pk_uLn (by omega)]; exact hout j h1 h2
  · by_cases e : j = i
    · rw [e, pk_us, pk_uLs]
      exact ⟨⟨fun _ => rfl, fun _ => rfl⟩, fun q => absurd rfl q⟩
    · rw [pk_un e, pk_uLn e]; exact hR j hj
  · have e := ne j hf
    rw [pk_uLn e] at hf ⊢
    exact hV j hj hf
theorem M_rem_hit {K : Nat → Int64} {F : Nat → Int32} {J G wk wv : Nat → Int64} {t i h : Nat} {le wi : Int32} {mo : Int64} {post : Int32 → Int32 → (Nat → Int32) → (Nat → Int64) → (Nat → Int64) → Int32 → Int64 → Int32 → (Nat → Int64) → (Nat → Int64) → Prop}
    (hR : Rm K F J) (ht : t ≤ 6) (ht1 : 1 ≤ t) (hi : i < 8 * 2 ^ t) (hh : h ≤ t) (ho : okE K t (i / 8) h) (hb : ∀ j, j < h → ¬ okE K t (i / 8) j)
    (hbody : wp_M_lift F J G (nI 0) wk wv (nI (wf (i / 8) h)) (nI (8 * 2 ^ h)) (fun F1 wa1 wk1 wv1 => wp_M_spread F1 J G wi mo wa1 wk1 wv1 (nI (wf (i / 8) h)) (nI h) (fun F' J' G' wi' mo' wa' => post 1 (nI (8 * 2 ^ t)) F' J' G' wi' mo' wa' wk1 wv1))) :
    ∃ n0, wp_M_remove_L28 le (nI i) (nI t) post n0 0 (nI (8 * 2 ^ t)) F J G wi mo (nI 0) wk wv := by
  have h6 := n_p6 ht
  have hx : i / 8 < 2 ^ t := by omega
  have ei : nI i / 8 = nI (i / 8) := by rw [n_lit8, pk_div (by omega) (by decide) (by decide)]
  have key2 : ∀ k j, j + k = h → wp_M_remove_L28 le (nI i) (nI t) post (k + 1) (nI j) (nI (8 * 2 ^ t)) F J G wi mo (nI 0) wk wv := by
    intro k
    induction k with
    | zero =>
      intro j e
      obtain rfl : j = h := by omega
      have hwf := wf_in ht hh hx
      have hm := fewF_lt ht hh ht1
      have hpj := n_p6 (show j ≤ 6 by omega)
      have hc := cnt_lt (K := K) (a := wf (i / 8) j) (show j ≤ 6 by omega)
      rw [wp_M_remove_L28]
      refine ⟨fun c => absurd c (nI_nlt (by omega) (by omega)), fun _ => ?_⟩
      rw [p_M_w (by omega), ei]
      refine p_M_firstOf (by omega) (by omega) ?_
      refine p_M_held hR (by omega) ?_
      refine p_M_fewest ht hh ht1 ?_
      rw [nI_1]
      refine pk_lt (cnt K (wf (i / 8) j) (8 * 2 ^ j)) (fewF t j) (fun q => ?_) (fun q => hbody) rfl rfl (by omega) (by omega)
      unfold okE at ho
      omega
    | succ k ih =>
      intro j e
      have hwf := wf_in ht (show j ≤ t by omega) hx
      have hm := fewF_lt ht (show j ≤ t by omega) ht1
      have hpj := n_p6 (show j ≤ 6 by omega)
      have hc := cnt_lt (K := K) (a := wf (i / 8) j) (show j ≤ 6 by omega)
      have hnb := hb j (by omega)
      rw [wp_M_remove_L28]
      refine ⟨fun c => absurd c (nI_nlt (by omega) (by omega)), fun _ => ?_⟩
      rw [p_M_w (by omega), ei]
      refine p_M_firstOf (by omega) (by omega) ?_
      refine p_M_held hR (by omega) ?_
      refine p_M_fewest ht (by omega) ht1 ?_
      rw [nI_1]
      refine pk_lt (cnt K (wf (i / 8) j) (8 * 2 ^ j)) (fewF t j) (fun q => ih (j + 1) (by omega)) (fun q => ?_) rfl rfl (by omega) (by omega)
      unfold okE at hnb
      omega
  exact ⟨_, key2 h 0 (by omega)⟩
theorem M_rem_none {K : Nat → Int64} {F : Nat → Int32} {J G wk wv : Nat → Int64} {t l0 i : Nat} {wi : Int32} {mo : Int64} {post : Int32 → Int32 → (Nat → Int32) → (Nat → Int64) → (Nat → Int64) → Int32 → Int64 → Int32 → (Nat → Int64) → (Nat → Int64) → Prop}
    (hR : Rm K F J) (ht : t ≤ 6) (hl : l0 ≤ t) (ht1 : 1 ≤ t) (hi : i < 8 * 2 ^ t) (hb : ∀ j, j ≤ t → ¬ okE K t (i / 8) j)
    (h1 : t = l0 → post 1 (nI (8 * 2 ^ t)) F J G wi mo (nI 0) wk wv)
    (h2 : l0 < t → wp_M_lift F J G (nI 0) wk wv (nI 0) (nI (8 * 2 ^ t)) (fun F1 wa1 wk1 wv1 => wp_M_spread F1 J G wi mo wa1 wk1 wv1 (nI 0) (nI (t - 1)) (fun F' J' G' wi' mo' wa' => post 1 (nI (8 * 2 ^ (t - 1))) F' J' G' wi' mo' wa' wk1 wv1))) :
    ∃ n0, wp_M_remove_L28 (nI (8 * 2 ^ l0)) (nI i) (nI t) post n0 0 (nI (8 * 2 ^ t)) F J G wi mo (nI 0) wk wv := by
  have h6 := n_p6 ht
  have h6l := n_p6 (show l0 ≤ 6 by omega)
  have hx : i / 8 < 2 ^ t := by omega
  have ei : nI i / 8 = nI (i / 8) := by rw [n_lit8, pk_div (by omega) (by decide) (by decide)]
  have key2 : ∀ k j, j + k = t + 1 → wp_M_remove_L28 (nI (8 * 2 ^ l0)) (nI i) (nI t) post (k + 1) (nI j) (nI (8 * 2 ^ t)) F J G wi mo (nI 0) wk wv := by
    intro k
    induction k with
    | zero =>
      intro j e
      obtain rfl : j = t + 1 := by omega
      rw [wp_M_remove_L28]
      refine ⟨fun _ => ?_, fun c => absurd (nI_lt (by omega) (by omega)) c⟩
      refine pk_le (8 * 2 ^ t) (8 * 2 ^ l0) (fun q => h1 ?_) (fun q => ?_) rfl rfl (by omega) (by omega)
      · rcases Nat.lt_or_ge l0 t with z | z
        · have : 2 ^ (l0 + 1) ≤ 2 ^ t := Nat.pow_le_pow_right (by decide) (by omega)
          rw [n_p1] at this
          have := n_pp l0
          omega
        · omega
      · have hlt : l0 < t := by
          rcases Nat.lt_or_ge l0 t with z | z
          · exact z
          · obtain rfl : l0 = t := by omega
            omega
        have := h2 hlt
        have e2 : 2 ^ t = 2 * 2 ^ (t - 1) := by rw [← n_p1, show t - 1 + 1 = t by omega]
        have e3 : 8 * 2 ^ t / 2 = 8 * 2 ^ (t - 1) := by omega
        rw [n_lit1, pk_sub (by omega), n_lit2, pk_div (by omega) (by decide) (by decide), e3]
        exact this
    | succ k ih =>
      intro j e
      have hwf := wf_in ht (show j ≤ t by omega) hx
      have hm := fewF_lt ht (show j ≤ t by omega) ht1
      have hpj := n_p6 (show j ≤ 6 by omega)
      have hc := cnt_lt (K := K) (a := wf (i / 8) j) (show j ≤ 6 by omega)
      have hnb := hb j (by omega)
      rw [wp_M_remove_L28]
      refine ⟨fun c => absurd c (nI_nlt (by omega) (by omega)), fun _ => ?_⟩
      rw [p_M_w (by omega), ei]
      refine p_M_firstOf (by omega) (by omega) ?_
      refine p_M_held hR (by omega) ?_
      refine p_M_fewest ht (by omega) ht1 ?_
      rw [nI_1]
      refine pk_lt (cnt K (wf (i / 8) j) (8 * 2 ^ j)) (fewF t j) (fun q => ih (j + 1) (by omega)) (fun q => ?_) rfl rfl (by omega) (by omega)
      unfold okE at hnb
      omega
  exact ⟨_, key2 (t + 1) 0 (by omega)⟩
theorem takeOut_ok {K V : Nat → Int64} {t l0 : Nat} {F : Nat → Int32} {J G : Nat → Int64} {i : Nat} (lh : Int32) (mv : Int64) (wk wv : Nat → Int64) (hR0 : Rl K V t l0 F J G) (hi : i < 8 * 2 ^ t) :
    ∃ (K2 V2 : Nat → Int64) (t2 : Nat) (lh2 : Int32) (mv2 : Int64) (F2 : Nat → Int32) (J2 G2 wk2 wv2 : Nat → Int64), Rl K2 V2 t2 l0 F2 J2 G2 ∧
      (∀ post : (Nat → Int64) → (Nat → Int64) → Int32 → Int32 → Int64 → Prop, post K2 V2 (nI t2) lh2 mv2 → wp_S_takeOut K V (nI l0) (nI t) lh mv (nI i) post) ∧
      (∀ post : Int32 → Int32 → (Nat → Int32) → (Nat → Int64) → (Nat → Int64) → Int32 → Int64 → Int32 → (Nat → Int64) → (Nat → Int64) → Prop, post 1 (nI (8 * 2 ^ t2)) F2 J2 G2 lh2 mv2 (nI 0) wk2 wv2 → ∃ n0, wp_M_remove_L28 (nI (8 * 2 ^ l0)) (nI i) (nI t) post n0 0 (nI (8 * 2 ^ t)) (upd F i 0) J G lh mv (nI 0) wk wv) := by
  have hR1 := clear_ok hR0 hi
  obtain ⟨r1, r2, r3, hs, hout, hR, hV⟩ := id hR1
  have h6 := n_p6 r3
  have hx : i / 8 < 2 ^ t := by omega
  have ei : nI i / 8 = nI (i / 8) := by rw [n_lit8, pk_div (by omega) (by decide) (by decide)]
  by_cases hr : ∃ h, h ≤ t ∧ okE (vp_updL K i NOK) t (i / 8) h
  · obtain ⟨h, ⟨h1, h2⟩, h3⟩ := pk_least (fun h => h ≤ t ∧ okE (vp_updL K i NOK) t (i / 8) h) hr
    have h3' : ∀ j, j < h → ¬ okE (vp_updL K i NOK) t (i / 8) j := fun j hj q => h3 j hj ⟨by omega, q⟩
    obtain ⟨w1, w2, w3⟩ := wf_in r3 h1 hx
    obtain ⟨K2, V2, F2, J2, G2, wk2, wv2, q1, q2, q3⟩ := again_ok (t' := t) (a := wf (i / 8) h) (w := 8 * 2 ^ h) (h := h) (lh := lh) (mv := mv) (wk := wk) (wv := wv) hR1 (Nat.le_refl t) r2 (by omega) (by omega) (Nat.le_refl _) (cnt_le _ _ _) (fun i z1 z2 => by omega) (fun i z1 z2 => z1)
    refine ⟨K2, V2, t, nI h, mv + (nI (cnt (vp_updL K i NOK) (wf (i / 8) h) (8 * 2 ^ h))).toInt64, F2, J2, G2, wk2, wv2, q1, fun post hp => ?_, fun post hp => ?_⟩
    · unfold wp_S_takeOut
      refine p_S_clear (by omega) ?_
      rw [ei]
      refine p_S_heightWithEnough r3 (by omega) hx (fun h' z1 z2 z3 => ?_) (fun z => absurd h2 (z h h1))
      have e : h' = h := by
        rcases Nat.lt_trichotomy h' h with y | y | y
        · exact absurd z2 (h3' h' y)
        · exact y
        · exact absurd h2 (z3 h y)
      rw [e]
      refine ⟨fun c => absurd c (n_m1 (by omega)), fun _ => ?_⟩
      refine p_S_firstCell (by omega) (by omega) ?_
      refine p_S_windowCells (by omega) ?_
      exact q2 _ hp
    · exact M_rem_hit hR r3 (by omega) hi h1 h2 h3' (q3 (fun F' J' G' wi' mo' wa' wk' wv' => post 1 (nI (8 * 2 ^ t)) F' J' G' wi' mo' wa' wk' wv') hp)
  · have hnr : ∀ h, h ≤ t → ¬ okE (vp_updL K i NOK) t (i / 8) h := fun h z1 z2 => hr ⟨h, z1, z2⟩
    rcases Nat.lt_or_ge l0 t with lt | lt
    · have e2 : 2 ^ t = 2 * 2 ^ (t - 1) := by rw [← n_p1, show t - 1 + 1 = t by omega]
      have ew : wf (i / 8) t = 0 := by
        unfold wf
        rw [Nat.div_eq_of_lt hx, Nat.zero_mul]
      have hfew : cnt (vp_updL K i NOK) 0 (8 * 2 ^ t) ≤ 8 * 2 ^ (t - 1) := by
        have hz := hnr t (Nat.le_refl t)
        unfold okE at hz
        rw [ew] at hz
        have hz2 : fewF t t ≤ 2 * 2 ^ t := by
          unfold fewF
          have a1 : 8 * 2 ^ t * (t + t) = 2 * 2 ^ t * (8 * t) := by
            rw [← Nat.two_mul, Nat.mul_comm 8 (2 ^ t), Nat.mul_assoc, Nat.mul_comm 2 (2 ^ t), Nat.mul_assoc]
            congr 1
            omega
          rw [a1, Nat.div_le_iff_le_mul_add_pred (by omega), Nat.mul_comm (8 * t)]
          omega
        omega
      obtain ⟨K2, V2, F2, J2, G2, wk2, wv2, q1, q2, q3⟩ := again_ok (t' := t - 1) (a := 0) (w := 8 * 2 ^ t) (h := t - 1) (lh := lh) (mv := mv) (wk := wk) (wv := wv) hR1 (by omega) (by omega) (by omega) (by omega) (by omega) hfew (fun i z1 z2 => by omega) (fun i z1 z2 => by omega)
      refine ⟨K2, V2, t - 1, nI (t - 1), mv + (nI (cnt (vp_updL K i NOK) 0 (8 * 2 ^ t))).toInt64, F2, J2, G2, wk2, wv2, q1, fun post hp => ?_, fun post hp => ?_⟩
      · unfold wp_S_takeOut
        refine p_S_clear (by omega) ?_
        rw [ei]
        refine p_S_heightWithEnough r3 (by omega) hx (fun h' z1 z2 z3 => absurd z2 (hnr h' z1)) (fun _ => ?_)
        refine ⟨fun _ => ?_, fun c => absurd rfl c⟩
        refine ⟨fun c => absurd c (nI_ge lt (by omega)), fun _ => ?_⟩
        unfold wp_S_halve
        refine p_S_cells r3 ?_
        rw [n_lit1, pk_sub (by omega)]
        exact q2 _ hp
      · exact M_rem_none hR r3 r2 (by omega) hi hnr (fun z => absurd z (by omega)) (fun _ => q3 (fun F' J' G' wi' mo' wa' wk' wv' => post 1 (nI (8 * 2 ^ (t - 1))) F' J' G' wi' mo' wa' wk' wv') hp)
    · obtain rfl : l0 = t := by omega
      refine ⟨vp_updL K i NOK, vp_updL V i 0, l0, lh, mv, upd F i 0, J, G, wk, wv, hR1, fun post hp => ?_, fun post hp => ?_⟩
      · unfold wp_S_takeOut
        refine p_S_clear (by omega) ?_
        rw [ei]
        refine p_S_heightWithEnough r3 (by omega) hx (fun h' z1 z2 z3 => absurd z2 (hnr h' z1)) (fun _ => ?_)
        exact ⟨fun _ => ⟨fun _ => hp, fun c => absurd (nI_le (Nat.le_refl _) (by omega)) c⟩, fun c => absurd rfl c⟩
      · exact M_rem_none hR r3 (Nat.le_refl _) (by omega) hi hnr (fun _ => hp) (fun z => absurd z (by omega))
theorem Rl_uniq {K V : Nat → Int64} {t l0 : Nat} {F : Nat → Int32} {J G : Nat → Int64} {i j : Nat} (hR0 : Rl K V t l0 F J G) (hi : i < 8 * 2 ^ t) (hj : j < 8 * 2 ^ t) (fi : K i ≠ NOK) (fj : K j ≠ NOK) (e : K i = K j) : i = j := by
  obtain ⟨r1, r2, r3, hs, hout, hR, hV⟩ := hR0
  have h6 := n_p6 r3
  rcases Nat.lt_trichotomy i j with q | q | q
  · exact absurd (hs i j q (by omega) fi fj) (by rw [e]; exact l_irr)
  · exact q
  · exact absurd (hs j i q (by omega) fj fi) (by rw [e]; exact l_irr)
/-- the reference's remove of a key that is there -/
theorem M_remove_at {K V : Nat → Int64} {t l0 : Nat} {F : Nat → Int32} {J G : Nat → Int64} {i : Nat} {le lh : Int32} {mv : Int64} {wk wv : Nat → Int64} {post : Int32 → Int32 → (Nat → Int32) → (Nat → Int64) → (Nat → Int64) → Int32 → Int64 → Int32 → (Nat → Int64) → (Nat → Int64) → Prop}
    (hR0 : Rl K V t l0 F J G) (hi : i < 8 * 2 ^ t) (fi : K i ≠ NOK) (h : ∃ n0, wp_M_remove_L28 le (nI i) (nI t) post n0 0 (nI (8 * 2 ^ t)) (upd F i 0) J G lh mv (nI 0) wk wv) :
    wp_M_remove le (nI (8 * 2 ^ t)) F J G lh mv (nI 0) wk wv (K i) post := by
  obtain ⟨r1, r2, r3, hs, hout, hR, hV⟩ := id hR0
  have h6 := n_p6 r3
  unfold wp_M_remove
  refine p_M_cellOf hR (by omega) (fun j j1 j2 j3 => ?_) (fun z => absurd rfl (z i hi fi))
  obtain rfl := Rl_uniq hR0 hi j1 fi j2 j3.symm
  rw [nI_clamp (by omega), nz0]
  refine ⟨fun _ => ⟨vp_in_nI (by omega) (by decide), p_M_levels r3 h⟩, fun c => absurd (nI_pos' (by omega)) c⟩
theorem remove_ok {K V : Nat → Int64} {t l0 : Nat} {F : Nat → Int32} {J G : Nat → Int64} (key : Int64) (lh : Int32) (mv : Int64) (wk wv : Nat → Int64) (hR0 : Rl K V t l0 F J G) :
    ∃ (r : Int32) (K2 V2 : Nat → Int64) (t2 : Nat) (lh2 : Int32) (mv2 : Int64) (F2 : Nat → Int32) (J2 G2 wk2 wv2 : Nat → Int64), Rl K2 V2 t2 l0 F2 J2 G2 ∧
      (∀ post : Int32 → (Nat → Int64) → (Nat → Int64) → Int32 → Int32 → Int64 → Prop, post r K2 V2 (nI t2) lh2 mv2 → wp_S_remove K V (nI l0) (nI t) lh mv key post) ∧
      (∀ post : Int32 → Int32 → (Nat → Int32) → (Nat → Int64) → (Nat → Int64) → Int32 → Int64 → Int32 → (Nat → Int64) → (Nat → Int64) → Prop, post r (nI (8 * 2 ^ t2)) F2 J2 G2 lh2 mv2 (nI 0) wk2 wv2 → wp_M_remove (nI (8 * 2 ^ l0)) (nI (8 * 2 ^ t)) F J G lh mv (nI 0) wk wv key post) := by
  obtain ⟨r1, r2, r3, hs, hout, hR, hV⟩ := id hR0
  have h6 := n_p6 r3
  by_cases he : ∃ i, i < 8 * 2 ^ t ∧ K i ≠ NOK ∧ K i = key
  · obtain ⟨i, i1, i2, rfl⟩ := he
    obtain ⟨K2, V2, t2, lh2, mv2, F2, J2, G2, wk2, wv2, q1, q2, q3⟩ := takeOut_ok lh mv wk wv hR0 i1
    refine ⟨1, K2, V2, t2, lh2, mv2, F2, J2, G2, wk2, wv2, q1, fun post hp => ?_, fun post hp => M_remove_at hR0 i1 i2 (q3 post hp)⟩
    unfold wp_S_remove
    refine p_S_cellOf r3 hs hout (fun j j1 j2 j3 => ?_) (fun z => absurd rfl (z i i1 i2))
    obtain rfl := Rl_uniq hR0 i1 j1 i2 j2 j3.symm
    exact ⟨fun c => absurd c (n_m1 (by omega)), fun _ => q2 _ hp⟩
  · have hno : ∀ i, i < 8 * 2 ^ t → K i ≠ NOK → K i ≠ key := fun i i1 i2 i3 => he ⟨i, i1, i2, i3⟩
    refine ⟨0, K, V, t, lh, mv, F, J, G, wk, wv, hR0, fun post hp => ?_, fun post hp => ?_⟩
    · unfold wp_S_remove
      refine p_S_cellOf r3 hs hout (fun j j1 j2 j3 => absurd j3 (hno j j1 j2)) (fun _ => ?_)
      exact ⟨fun _ => hp, fun c => absurd rfl c⟩
    · unfold wp_M_remove
      refine p_M_cellOf hR (by omega) (fun j j1 j2 j3 => absurd j3 (hno j j1 j2)) (fun _ => ?_)
      exact ⟨fun c => absurd c (by decide), fun _ => hp⟩
theorem drop_ok {K V : Nat → Int64} {t l0 : Nat} {F : Nat → Int32} {J G : Nat → Int64} (key : Int64) (a : Int32) (lh : Int32) (mv : Int64) (wk wv : Nat → Int64) (hR0 : Rl K V t l0 F J G) :
    ∃ (r : Int32) (K2 V2 : Nat → Int64) (t2 : Nat) (lh2 : Int32) (mv2 : Int64) (F2 : Nat → Int32) (J2 G2 wk2 wv2 : Nat → Int64), Rl K2 V2 t2 l0 F2 J2 G2 ∧
      (∀ post : Int32 → (Nat → Int64) → (Nat → Int64) → Int32 → Int32 → Int64 → Prop, post r K2 V2 (nI t2) lh2 mv2 → wp_S_drop K V (nI l0) (nI t) lh mv key a post) ∧
      (∀ post : Int32 → Int32 → (Nat → Int32) → (Nat → Int64) → (Nat → Int64) → Int32 → Int64 → Int32 → (Nat → Int64) → (Nat → Int64) → Prop, post r (nI (8 * 2 ^ t2)) F2 J2 G2 lh2 mv2 (nI 0) wk2 wv2 → wp_M_drop (nI (8 * 2 ^ l0)) (nI (8 * 2 ^ t)) F J G lh mv (nI 0) wk wv key a post) := by
  by_cases c1 : a < 0
  · refine ⟨-1, K, V, t, lh, mv, F, J, G, wk, wv, hR0, fun post hp => ?_, fun post hp => ?_⟩
    · unfold wp_S_drop; exact ⟨fun _ => hp, fun c => absurd c1 c⟩
    · unfold wp_M_drop; exact ⟨fun _ => hp, fun c => absurd c1 c⟩
  by_cases c2 : a ≤ 64
  · obtain ⟨m, hm, rfl⟩ := nI_of2 (n := 64) (M := 64) (by decide) c1 c2
    have main : ∀ k j K V t F J G lh mv wk wv, j + k = m → Rl K V t l0 F J G →
        ∃ (r : Int32) (K2 V2 : Nat → Int64) (t2 : Nat) (lh2 : Int32) (mv2 : Int64) (F2 : Nat → Int32) (J2 G2 wk2 wv2 : Nat → Int64), Rl K2 V2 t2 l0 F2 J2 G2 ∧
          (∀ post : Int32 → (Nat → Int64) → (Nat → Int64) → Int32 → Int32 → Int64 → Prop, post r K2 V2 (nI t2) lh2 mv2 → wp_S_drop_L15 (nI l0) key (nI m) post (k + 1) (nI j) K V (nI t) lh mv) ∧
          (∀ post : Int32 → Int32 → (Nat → Int32) → (Nat → Int64) → (Nat → Int64) → Int32 → Int64 → Int32 → (Nat → Int64) → (Nat → Int64) → Prop, post r (nI (8 * 2 ^ t2)) F2 J2 G2 lh2 mv2 (nI 0) wk2 wv2 → wp_M_drop_L21 (nI (8 * 2 ^ l0)) key (nI m) post (k + 2) (nI j) 1 (nI j) (nI (8 * 2 ^ t)) F J G lh mv (nI 0) wk wv) := by
      intro k
      induction k with
      | zero =>
        intro j K V t F J G lh mv wk wv e hR0
        obtain rfl : j = m := by omega
        refine ⟨nI j, K, V, t, lh, mv, F, J, G, wk, wv, hR0, fun post hp => ?_, fun post hp => ?_⟩
        · rw [wp_S_drop_L15]
          exact ⟨fun _ => hp, fun c => absurd (nI_le (Nat.le_refl _) (by omega)) c⟩
        · rw [wp_M_drop_L21]
          exact ⟨fun _ => hp, fun c => absurd (nI_le (Nat.le_refl _) (by omega)) c⟩
      | succ k ih =>
        intro j K V t F J G lh mv wk wv e hR0
        obtain ⟨r1, r2, r3, hs, hout, hR, hV⟩ := id hR0
        have h6 := n_p6 r3
        by_cases hc : ∃ i, IsC K (8 * 2 ^ t) key i
        · obtain ⟨i, hi⟩ := hc
          have uq : ∀ i', IsC K (8 * 2 ^ t) key i' → i' = i := by
            intro i' hi'
            rcases Nat.lt_trichotomy i' i with q | q | q
            · exact absurd (hi.2.2.2 i' q hi'.2.1) (l_nlt.mpr hi'.2.2.1)
            · exact q
            · exact absurd (hi'.2.2.2 i q hi.2.1) (l_nlt.mpr hi.2.2.1)
          have nn : ¬ NoC K (8 * 2 ^ t) key := fun z => l_nlt.mpr hi.2.2.1 (z i hi.1 hi.2.1)
          obtain ⟨K1, V1, t1, lh1, mv1, F1, J1, G1, wk1, wv1, q1, q2, q3⟩ := takeOut_ok lh mv wk wv hR0 hi.1
          obtain ⟨r, K2, V2, t2, lh2, mv2, F2, J2, G2, wk2, wv2, p1, p2, p3⟩ := ih (j + 1) K1 V1 t1 F1 J1 G1 lh1 mv1 wk1 wv1 (by omega) q1
          refine ⟨r, K2, V2, t2, lh2, mv2, F2, J2, G2, wk2, wv2, p1, fun post hp => ?_, fun post hp => ?_⟩
          · rw [wp_S_drop_L15]
            refine ⟨fun c => absurd c (nI_ge (by omega) (by omega)), fun _ => ?_⟩
            refine p_S_cellNotBelow r3 hs hout (fun i' hi' => ?_) (fun z => absurd z nn)
            obtain rfl := uq i' hi'
            refine ⟨fun c => absurd c (n_m1 (by have := hi.1; omega)), fun _ => q2 _ ?_⟩
            rw [nI_1]
            exact p2 post hp
          · rw [wp_M_drop_L21]
            refine ⟨fun c => absurd c (nI_ge (by omega) (by omega)), fun _ => ⟨fun c => absurd c (by decide), fun _ => ?_⟩⟩
            refine p_M_ceiling hR (by omega) (fun i' hi' => ?_) (fun z => absurd z nn)
            obtain rfl := uq i' hi'
            refine ⟨fun c => absurd c hi.2.1, fun _ => ?_⟩
            refine M_remove_at hR0 hi.1 hi.2.1 (q3 _ ?_)
            rw [nI_1]
            exact ⟨fun c => absurd c (by decide), fun _ => p3 post hp⟩
        · have nn : NoC K (8 * 2 ^ t) key := by
            intro i hi fi
            rcases Classical.em (K i < key) with z | z
            · exact z
            · exfalso
              obtain ⟨i2, ⟨y1, y2, y3⟩, y4⟩ := pk_least (fun i => i < 8 * 2 ^ t ∧ K i ≠ NOK ∧ key ≤ K i) ⟨i, hi, fi, l_nlt.mp z⟩
              refine hc ⟨i2, y1, y2, y3, fun j hj fj => ?_⟩
              rw [← l_nle]
              exact fun q => y4 j hj ⟨by omega, fj, q⟩
          have ni : ∀ i, ¬ IsC K (8 * 2 ^ t) key i := fun i hi => hc ⟨i, hi⟩
          refine ⟨nI j, K, V, t, lh, mv, F, J, G, wk, wv, hR0, fun post hp => ?_, fun post hp => ?_⟩
          · rw [wp_S_drop_L15]
            refine ⟨fun c => absurd c (nI_ge (by omega) (by omega)), fun _ => ?_⟩
            refine p_S_cellNotBelow r3 hs hout (fun i' hi' => absurd hi' (ni i')) (fun _ => ?_)
            exact ⟨fun _ => hp, fun c => absurd rfl c⟩
          · rw [wp_M_drop_L21]
            refine ⟨fun c => absurd c (nI_ge (by omega) (by omega)), fun _ => ⟨fun c => absurd c (by decide), fun _ => ?_⟩⟩
            refine p_M_ceiling hR (by omega) (fun i' hi' => absurd hi' (ni i')) (fun _ => ?_)
            refine ⟨fun _ => ?_, fun c => absurd rfl c⟩
            rw [wp_M_drop_L21, n_lit0, nI_add]
            exact ⟨fun _ => hp, fun _ => ⟨fun _ => hp, fun c => absurd rfl c⟩⟩
    obtain ⟨r, K2, V2, t2, lh2, mv2, F2, J2, G2, wk2, wv2, p1, p2, p3⟩ := main m 0 K V t F J G lh mv wk wv (by omega) hR0
    refine ⟨r, K2, V2, t2, lh2, mv2, F2, J2, G2, wk2, wv2, p1, fun post hp => ?_, fun post hp => ?_⟩
    · unfold wp_S_drop
      exact ⟨fun c => absurd c c1, fun _ => ⟨fun _ => ⟨_, p2 post hp⟩, fun c => absurd c2 c⟩⟩
    · unfold wp_M_drop
      exact ⟨fun c => absurd c c1, fun _ => ⟨fun _ => ⟨_, p3 post hp⟩, fun c => absurd c2 c⟩⟩
  · refine ⟨-1, K, V, t, lh, mv, F, J, G, wk, wv, hR0, fun post hp => ?_, fun post hp => ?_⟩
    · unfold wp_S_drop; exact ⟨fun _ => hp, fun _ => ⟨fun c => absurd c c2, fun _ => hp⟩⟩
    · unfold wp_M_drop; exact ⟨fun _ => hp, fun _ => ⟨fun c => absurd c c2, fun _ => hp⟩⟩
theorem fill_ok {K V : Nat → Int64} {t l0 : Nat} {F : Nat → Int32} {J G : Nat → Int64} (key step : Int64) (a : Int32) (lh : Int32) (mv : Int64) (wk wv : Nat → Int64) (hR0 : Rl K V t l0 F J G) :
    ∃ (r : Int32) (K2 V2 : Nat → Int64) (t2 : Nat) (lh2 : Int32) (mv2 : Int64) (F2 : Nat → Int32) (J2 G2 wk2 wv2 : Nat → Int64), Rl K2 V2 t2 l0 F2 J2 G2 ∧
      (∀ post : Int32 → (Nat → Int64) → (Nat → Int64) → Int32 → Int32 → Int64 → Prop, post r K2 V2 (nI t2) lh2 mv2 → wp_S_fill K V (nI t) lh mv key step a post) ∧
      (∀ post : Int32 → Int32 → (Nat → Int32) → (Nat → Int64) → (Nat → Int64) → Int32 → Int64 → Int32 → (Nat → Int64) → (Nat → Int64) → Prop, post r (nI (8 * 2 ^ t2)) F2 J2 G2 lh2 mv2 (nI 0) wk2 wv2 → wp_M_fill (nI (8 * 2 ^ t)) F J G lh mv (nI 0) wk wv key step a post) := by
  by_cases c1 : a < 0
  · refine ⟨-1, K, V, t, lh, mv, F, J, G, wk, wv, hR0, fun post hp => ?_, fun post hp => ?_⟩
    · unfold wp_S_fill; exact ⟨fun _ => hp, fun c => absurd c1 c⟩
    · unfold wp_M_fill; exact ⟨fun _ => hp, fun c => absurd c1 c⟩
  by_cases c2 : a ≤ 64
  · obtain ⟨m, hm, rfl⟩ := nI_of2 (n := 64) (M := 64) (by decide) c1 c2
    have main : ∀ k j (x : Int32) (y : Int64) K V t F J G lh mv wk wv, j + k = m → y = key + (nI j).toInt64 * step → Rl K V t l0 F J G →
        ∃ (r : Int32) (K2 V2 : Nat → Int64) (t2 : Nat) (lh2 : Int32) (mv2 : Int64) (F2 : Nat → Int32) (J2 G2 wk2 wv2 : Nat → Int64), Rl K2 V2 t2 l0 F2 J2 G2 ∧
          (∀ post : Int32 → (Nat → Int64) → (Nat → Int64) → Int32 → Int32 → Int64 → Prop, post r K2 V2 (nI t2) lh2 mv2 → wp_S_fill_L20 key step (nI m) post (k + 1) x (nI j) K V (nI t) lh mv) ∧
          (∀ post : Int32 → Int32 → (Nat → Int32) → (Nat → Int64) → (Nat → Int64) → Int32 → Int64 → Int32 → (Nat → Int64) → (Nat → Int64) → Prop, post r (nI (8 * 2 ^ t2)) F2 J2 G2 lh2 mv2 (nI 0) wk2 wv2 → wp_M_fill_L23 step (nI m) post (k + 1) x y (nI j) (nI (8 * 2 ^ t)) F J G lh mv (nI 0) wk wv) := by
      intro k
      induction k with
      | zero =>
        intro j x y K V t F J G lh mv wk wv e ey hR0
        obtain rfl : j = m := by omega
        refine ⟨x, K, V, t, lh, mv, F, J, G, wk, wv, hR0, fun post hp => ?_, fun post hp => ?_⟩
        · rw [wp_S_fill_L20]
          exact ⟨fun _ => hp, fun c => absurd (nI_le (Nat.le_refl _) (by omega)) c⟩
        · rw [wp_M_fill_L23]
          exact ⟨fun _ => hp, fun c => absurd (nI_le (Nat.le_refl _) (by omega)) c⟩
      | succ k ih =>
        intro j x y K V t F J G lh mv wk wv e ey hR0
        obtain ⟨r, K1, V1, t1, lh1, mv1, F1, J1, G1, wk1, wv1, q1, qr, q2, q3⟩ := put_ok (key + (nI j).toInt64 * step) (nI j).toInt64 lh mv wk wv hR0
        by_cases cr : r = -1
        · refine ⟨x, K1, V1, t1, lh1, mv1, F1, J1, G1, wk1, wv1, q1, fun post hp => ?_, fun post hp => ?_⟩
          · rw [wp_S_fill_L20]
            exact ⟨fun c => absurd c (nI_ge (by omega) (by omega)), fun _ => q2 _ ⟨fun _ => hp, fun c => absurd cr c⟩⟩
          · rw [wp_M_fill_L23, ey]
            refine ⟨fun c => absurd c (nI_ge (by omega) (by omega)), fun _ => q3 _ ⟨fun c => ?_, fun _ => hp⟩⟩
            rw [cr] at c
            exact absurd c (by decide)
        · have r0 : 0 ≤ r := by
            rcases qr with z | z | z
            · exact absurd z cr
            · rw [z]; decide
            · rw [z]; decide
          have ey2 : y + step = key + (nI (j + 1)).toInt64 * step := by
            rw [ey, nI_l (by omega), nI_l (by omega), ← lN_1, Int64.add_mul, Int64.one_mul, Int64.add_assoc]
          obtain ⟨r', K2, V2, t2, lh2, mv2, F2, J2, G2, wk2, wv2, p1, p2, p3⟩ := ih (j + 1) (x + r) (y + step) K1 V1 t1 F1 J1 G1 lh1 mv1 wk1 wv1 (by omega) ey2 q1
          refine ⟨r', K2, V2, t2, lh2, mv2, F2, J2, G2, wk2, wv2, p1, fun post hp => ?_, fun post hp => ?_⟩
          · rw [wp_S_fill_L20]
            refine ⟨fun c => absurd c (nI_ge (by omega) (by omega)), fun _ => q2 _ ⟨fun c => absurd c cr, fun _ => ?_⟩⟩
            rw [nI_1]
            exact p2 post hp
          · rw [wp_M_fill_L23]
            refine ⟨fun c => absurd c (nI_ge (by omega) (by omega)), fun _ => ?_⟩
            rw [nI_1]
            have := q3 (fun r_4 ceM_5 fM_6 kM_7 vM_8 wiM_9 moM_10 waM_11 wkM_12 wvM_13 => (0 ≤ r_4 → (wp_M_fill_L23 step (nI m) post (k + 1) (x + r_4) (y + step) (nI (j + 1)) ceM_5 fM_6 kM_7 vM_8 wiM_9 moM_10 waM_11 wkM_12 wvM_13)) ∧ (¬ 0 ≤ r_4 → (post x ceM_5 fM_6 kM_7 vM_8 wiM_9 moM_10 waM_11 wkM_12 wvM_13))) ⟨fun _ => p3 post hp, fun c => absurd r0 c⟩
            rw [← ey] at this
            exact this
    obtain ⟨r, K2, V2, t2, lh2, mv2, F2, J2, G2, wk2, wv2, p1, p2, p3⟩ := main m 0 0 key K V t F J G lh mv wk wv (by omega) (by rw [show (nI 0).toInt64 = 0 from by decide, Int64.zero_mul, Int64.add_zero]) hR0
    refine ⟨r, K2, V2, t2, lh2, mv2, F2, J2, G2, wk2, wv2, p1, fun post hp => ?_, fun post hp => ?_⟩
    · unfold wp_S_fill
      exact ⟨fun c => absurd c c1, fun _ => ⟨fun _ => ⟨_, p2 post hp⟩, fun c => absurd c2 c⟩⟩
    · unfold wp_M_fill
      exact ⟨fun c => absurd c c1, fun _ => ⟨fun _ => ⟨_, p3 post hp⟩, fun c => absurd c2 c⟩⟩
  · refine ⟨-1, K, V, t, lh, mv, F, J, G, wk, wv, hR0, fun post hp => ?_, fun post hp => ?_⟩
    · unfold wp_S_fill; exact ⟨fun _ => hp, fun _ => ⟨fun c => absurd c c2, fun _ => hp⟩⟩
    · unfold wp_M_fill; exact ⟨fun _ => hp, fun _ => ⟨fun c => absurd c c2, fun _ => hp⟩⟩
