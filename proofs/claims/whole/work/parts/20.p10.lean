/-! put: the two sides stay together. -/
def Rl (K V : Nat → Int64) (t l0 : Nat) (F : Nat → Int32) (J G : Nat → Int64) : Prop :=
  1 ≤ l0 ∧ l0 ≤ t ∧ t ≤ 6 ∧ Srt K ∧ (∀ i, 8 * 2 ^ t ≤ i → i < 512 → K i = NOK) ∧ Rm K F J ∧ (∀ i, i < 512 → K i ≠ NOK → G i = V i)
theorem row_ext {K X : Nat → Int64} {a w : Nat} : ∀ k, (∀ i, w ≤ i → i < w + k → K (a + i) = NOK) → cnt K a (w + k) = cnt K a w ∧ row K X a (w + k) = row K X a w
  | 0, _ => ⟨rfl, rfl⟩
  | k + 1, h => by
    obtain ⟨h1, h2⟩ := row_ext (X := X) k (fun i hi hi2 => h i hi (by omega))
    have e := h (w + k) (by omega) (by omega)
    rw [show w + (k + 1) = (w + k) + 1 from rfl]
    refine ⟨by rw [cnt_s, if_pos e]; exact h1, ?_⟩
    funext j
    rw [row_s, if_neg (fun q => q.1 e), h2]
theorem place_ok {K V : Nat → Int64} {t t' l0 : Nat} {F : Nat → Int32} {J G : Nat → Int64} {a w h : Nat} {key v : Int64} {lh : Int32} {mv : Int64} {wk wv : Nat → Int64}
    (hR0 : Rl K V t l0 F J G) (htt : t ≤ t') (ht : t' ≤ 6) (hh : h ≤ 6) (haw : a + 8 * 2 ^ h ≤ 8 * 2 ^ t') (hw : w ≤ 8 * 2 ^ h) (hext : ∀ i, w ≤ i → i < 8 * 2 ^ h → K (a + i) = NOK) (hn : cnt K a w < 8 * 2 ^ h)
    (hk : key ≠ NOK) (hno : ∀ i, i < 512 → K i ≠ NOK → K i ≠ key) (hb1 : ∀ q, q < a → K q ≠ NOK → K q < key) (hb2 : ∀ q, a + w ≤ q → q < 512 → K q ≠ NOK → key < K q) :
    ∃ K2 V2 F2 J2 G2 wk2 wv2, Rl K2 V2 t' l0 F2 J2 G2 ∧
      (∀ post : (Nat → Int64) → (Nat → Int64) → Int32 → Int64 → Prop, post K2 V2 (nI h) (mv + (nI (cnt K a w + 1)).toInt64) → wp_S_pack K V (nI a) (nI (8 * 2 ^ h)) (fun r K1 V1 => wp_S_insertPacked K1 V1 (nI a) r key v (fun K2 V2 => wp_S_spreadPacked K2 V2 lh mv (nI a) (nI h) (r + 1) post))) ∧
      (∀ post : (Nat → Int32) → (Nat → Int64) → (Nat → Int64) → Int32 → Int64 → Int32 → (Nat → Int64) → (Nat → Int64) → Prop, post F2 J2 G2 (nI h) (mv + (nI (cnt K a w + 1)).toInt64) (nI 0) wk2 wv2 →
        wp_M_lift F J G (nI 0) wk wv (nI a) (nI w) (fun F1 wa1 wk1 wv1 => wp_M_join wa1 wk1 wv1 key v (fun wa2 wk2 wv2 => wp_M_spread F1 J G lh mv wa2 wk2 wv2 (nI a) (nI h) (fun F' J' G' wi' mo' wa' => post F' J' G' wi' mo' wa' wk2 wv2)))) := by
  obtain ⟨r1, r2, r3, hs, hout, hR, hV⟩ := hR0
  have h6 := n_p6 ht
  obtain ⟨k, hk2⟩ : ∃ k, 8 * 2 ^ h = w + k := ⟨8 * 2 ^ h - w, by omega⟩
  have ec : cnt K a (8 * 2 ^ h) = cnt K a w := by rw [hk2]; exact (row_ext (X := K) k (fun i h1 h2 => hext i h1 (by omega))).1
  have er : ∀ X : Nat → Int64, row K X a (8 * 2 ^ h) = row K X a w := by intro X; rw [hk2]; exact (row_ext (X := X) k (fun i h1 h2 => hext i h1 (by omega))).2
  obtain ⟨K2, V2, hA, hS⟩ := S_join (K := K) (V := V) (a := a) (h := h) (key := key) (v := v) (lh := lh) (mv := mv) hh (by omega) (by rw [ec]; exact hn)
  rw [ec, er, er] at hA
  rw [ec] at hS
  obtain ⟨F1, F2, J2, G2, wk2, wv2, m1, m2, hM, hMw⟩ := M_join (wk := wk) (wv := wv) (a := a) (w := w) (h := h) (key := key) (v := v) (wi := lh) (mo := mv) hR hV hh (by omega) (by omega) hn
  have hrow : ∀ j, j < cnt K a w → row K K a w j ≠ NOK ∧ ∃ i, i < w ∧ K (a + i) = row K K a w j ∧ cnt K a i = j := fun j hj => row_full hj
  have hip := ip_le (row K K a w) key (cnt K a w)
  obtain ⟨a1, a2, a3⟩ := hA
  have hall : ∀ j, j < cnt K a w + 1 → kI (row K K a w) key (ip (row K K a w) key (cnt K a w)) j ≠ NOK := fun j hj => kI_of (P := fun z => z ≠ NOK) hk (fun j hj => (hrow j hj).1) hip hj
  have k2' : ∀ p, p < w ∨ p < 8 * 2 ^ h → (∀ j, j < cnt K a w + 1 → p ≠ j * (8 * 2 ^ h) / (cnt K a w + 1)) → K2 (a + p) = NOK := fun p hp hq => a2 p (by omega) hq
  have k3' : ∀ q, q < a ∨ (a + w ≤ q ∧ a + 8 * 2 ^ h ≤ q) → K2 q = K q ∧ V2 q = V q := fun q hq => a3 q (by omega)
  have hti := tie (K' := K2) (V' := V2) (F' := F2) (J' := J2) (G' := G2) (W1 := 8 * 2 ^ h) (n := cnt K a w + 1) hR hV hall (fun _ => by omega) a1 k2' k3' m1 m2 (fun q q1 q2 => by
      obtain ⟨i, rfl⟩ : ∃ i, q = a + i := ⟨q - a, by omega⟩
      exact (hR (a + i) (by omega)).1.mpr (hext i (by omega) (by omega))) hM
  have hsr : Srt K2 := by
    refine srt_ar (K := K) (K' := K2) (a := a) (w := w) (W1 := 8 * 2 ^ h) (n := cnt K a w + 1) hs (fun _ => by omega) ?_ (fun j hj => (a1 j hj).1) k2' (fun q hq => (k3' q hq).1) ?_ ?_
    · refine kI_rise (row_rise hs (by omega)) (fun j hj => ?_)
      obtain ⟨z1, i, z2, z3, z4⟩ := hrow j hj
      rw [← z3] at z1 ⊢
      exact hno (a + i) (by omega) z1
    · intro q j hq hf hj
      refine kI_of (P := fun z => K q < z) (hb1 q hq hf) (fun j hj => ?_) hip hj
      obtain ⟨z1, i, z2, z3, z4⟩ := hrow j hj
      rw [← z3] at z1 ⊢
      exact hs q (a + i) (by omega) (by omega) hf z1
    · intro q j hq hq2 hf hj
      refine kI_of (P := fun z => z < K q) (hb2 q hq hq2 hf) (fun j hj => ?_) hip hj
      obtain ⟨z1, i, z2, z3, z4⟩ := hrow j hj
      rw [← z3] at z1 ⊢
      exact hs (a + i) q (by omega) hq2 z1 hf
  have hp : 2 ^ t ≤ 2 ^ t' := Nat.pow_le_pow_right (by decide) htt
  refine ⟨K2, V2, F2, J2, G2, wk2, wv2, ⟨r1, by omega, ht, hsr, fun i hi hi2 => ?_, hti.1, hti.2⟩, hS, hMw⟩
  rw [(a3 i (by omega)).1]
  exact hout i (by omega) hi2
theorem M_put_hit {K : Nat → Int64} {F : Nat → Int32} {J G wk wv : Nat → Int64} {t x h : Nat} {key v : Int64} {wi : Int32} {mo : Int64} {post : Int32 → Int32 → (Nat → Int32) → (Nat → Int64) → (Nat → Int64) → Int32 → Int64 → Int32 → (Nat → Int64) → (Nat → Int64) → Prop}
    (hR : Rm K F J) (ht : t ≤ 6) (ht1 : 1 ≤ t) (hx : x < 2 ^ t) (hh : h ≤ t) (ho : okR K t x h) (hb : ∀ j, j < h → ¬ okR K t x j)
    (hbody : wp_M_lift F J G (nI 0) wk wv (nI (wf x h)) (nI (8 * 2 ^ h)) (fun F1 wa1 wk1 wv1 => wp_M_join wa1 wk1 wv1 key v (fun wa2 wk2 wv2 => wp_M_spread F1 J G wi mo wa2 wk2 wv2 (nI (wf x h)) (nI h) (fun F' J' G' wi' mo' wa' => post 1 (nI (8 * 2 ^ t)) F' J' G' wi' mo' wa' wk2 wv2)))) :
    ∃ n0, wp_M_put_L48 key v (nI x) (nI t) post n0 0 (nI (8 * 2 ^ t)) F J G wi mo (nI 0) wk wv := by
  have h6 := n_p6 ht
  have key2 : ∀ k j, j + k = h → wp_M_put_L48 key v (nI x) (nI t) post (k + 1) (nI j) (nI (8 * 2 ^ t)) F J G wi mo (nI 0) wk wv := by
    intro k
    induction k with
    | zero =>
      intro j e
      obtain rfl : j = h := by omega
      have hwf := wf_in ht hh hx
      have hm := n_mf ht hh ht1
      have hpj := n_p6 (show j ≤ 6 by omega)
      have hc := cnt_lt (K := K) (a := wf x j) (show j ≤ 6 by omega)
      rw [wp_M_put_L48]
      refine ⟨fun c => absurd c (nI_nlt (by omega) (by omega)), fun _ => ?_⟩
      rw [p_M_w (by omega)]
      refine p_M_firstOf (by omega) (by omega) ?_
      refine p_M_held hR (by omega) ?_
      refine p_M_most ht hh ht1 ?_
      rw [nI_1, nI_1]
      refine pk_lt (mostF t j) (cnt K (wf x j) (8 * 2 ^ j) + 1) (fun q => ?_) (fun q => hbody) rfl rfl (by omega) (by omega)
      unfold okR at ho
      omega
    | succ k ih =>
      intro j e
      have hwf := wf_in ht (show j ≤ t by omega) hx
      have hm := n_mf ht (show j ≤ t by omega) ht1
      have hpj := n_p6 (show j ≤ 6 by omega)
      have hc := cnt_lt (K := K) (a := wf x j) (show j ≤ 6 by omega)
      have hnb := hb j (by omega)
      rw [wp_M_put_L48]
      refine ⟨fun c => absurd c (nI_nlt (by omega) (by omega)), fun _ => ?_⟩
      rw [p_M_w (by omega)]
      refine p_M_firstOf (by omega) (by omega) ?_
      refine p_M_held hR (by omega) ?_
      refine p_M_most ht (by omega) ht1 ?_
      rw [nI_1, nI_1]
      refine pk_lt (mostF t j) (cnt K (wf x j) (8 * 2 ^ j) + 1) (fun q => ih (j + 1) (by omega)) (fun q => ?_) rfl rfl (by omega) (by omega)
      unfold okR at hnb
      omega
  exact ⟨_, key2 h 0 (by omega)⟩
theorem M_put_none {K : Nat → Int64} {F : Nat → Int32} {J G wk wv : Nat → Int64} {t x : Nat} {key v : Int64} {wi : Int32} {mo : Int64} {post : Int32 → Int32 → (Nat → Int32) → (Nat → Int64) → (Nat → Int64) → Int32 → Int64 → Int32 → (Nat → Int64) → (Nat → Int64) → Prop}
    (hR : Rm K F J) (ht : t ≤ 6) (ht1 : 1 ≤ t) (hx : x < 2 ^ t) (hb : ∀ j, j ≤ t → ¬ okR K t x j)
    (h1 : t = 6 → post (-1) (nI (8 * 2 ^ t)) F J G wi mo (nI 0) wk wv)
    (h2 : t < 6 → wp_M_lift F J G (nI 0) wk wv (nI 0) (nI (8 * 2 ^ t)) (fun F1 wa1 wk1 wv1 => wp_M_join wa1 wk1 wv1 key v (fun wa2 wk2 wv2 => wp_M_spread F1 J G wi mo wa2 wk2 wv2 (nI 0) (nI (t + 1)) (fun F' J' G' wi' mo' wa' => post 1 (nI (8 * 2 ^ (t + 1))) F' J' G' wi' mo' wa' wk2 wv2)))) :
    ∃ n0, wp_M_put_L48 key v (nI x) (nI t) post n0 0 (nI (8 * 2 ^ t)) F J G wi mo (nI 0) wk wv := by
  have h6 := n_p6 ht
  have hpp := n_pp t
  have key2 : ∀ k j, j + k = t + 1 → wp_M_put_L48 key v (nI x) (nI t) post (k + 1) (nI j) (nI (8 * 2 ^ t)) F J G wi mo (nI 0) wk wv := by
    intro k
    induction k with
    | zero =>
      intro j e
      obtain rfl : j = t + 1 := by omega
      rw [wp_M_put_L48]
      refine ⟨fun _ => ?_, fun c => absurd (nI_lt (by omega) (by omega)) c⟩
      refine pk_eq (8 * 2 ^ t) 512 (fun q => h1 ?_) (fun q => ?_) rfl rfl (by omega) (by decide)
      · rcases Nat.lt_or_ge t 6 with z | z
        · have : 2 ^ t ≤ 2 ^ 5 := Nat.pow_le_pow_right (by decide) (by omega)
          omega
        · omega
      · have ht5 : t < 6 := by
          rcases Nat.lt_or_ge t 6 with z | z
          · exact z
          · obtain rfl : t = 6 := by omega
            exact absurd rfl q
        have := h2 ht5
        rw [n_p1, show 8 * (2 * 2 ^ t) = 2 * (8 * 2 ^ t) by omega] at this
        rw [nI_1, n_lit2, pk_mul]
        exact this
    | succ k ih =>
      intro j e
      have hwf := wf_in ht (show j ≤ t by omega) hx
      have hm := n_mf ht (show j ≤ t by omega) ht1
      have hpj := n_p6 (show j ≤ 6 by omega)
      have hc := cnt_lt (K := K) (a := wf x j) (show j ≤ 6 by omega)
      have hnb := hb j (by omega)
      rw [wp_M_put_L48]
      refine ⟨fun c => absurd c (nI_nlt (by omega) (by omega)), fun _ => ?_⟩
      rw [p_M_w (by omega)]
      refine p_M_firstOf (by omega) (by omega) ?_
      refine p_M_held hR (by omega) ?_
      refine p_M_most ht (by omega) ht1 ?_
      rw [nI_1, nI_1]
      refine pk_lt (mostF t j) (cnt K (wf x j) (8 * 2 ^ j) + 1) (fun q => ih (j + 1) (by omega)) (fun q => ?_) rfl rfl (by omega) (by omega)
      unfold okR at hnb
      omega
  exact ⟨_, key2 (t + 1) 0 (by omega)⟩
theorem put_ok {K V : Nat → Int64} {t l0 : Nat} {F : Nat → Int32} {J G : Nat → Int64} (key v : Int64) (lh : Int32) (mv : Int64) (wk wv : Nat → Int64) (hR0 : Rl K V t l0 F J G) :
    ∃ (r : Int32) (K2 V2 : Nat → Int64) (t2 : Nat) (lh2 : Int32) (mv2 : Int64) (F2 : Nat → Int32) (J2 G2 wk2 wv2 : Nat → Int64), Rl K2 V2 t2 l0 F2 J2 G2 ∧ (r = -1 ∨ r = 0 ∨ r = 1) ∧
      (∀ post : Int32 → (Nat → Int64) → (Nat → Int64) → Int32 → Int32 → Int64 → Prop, post r K2 V2 (nI t2) lh2 mv2 → wp_S_put K V (nI t) lh mv key v post) ∧
      (∀ post : Int32 → Int32 → (Nat → Int32) → (Nat → Int64) → (Nat → Int64) → Int32 → Int64 → Int32 → (Nat → Int64) → (Nat → Int64) → Prop, post r (nI (8 * 2 ^ t2)) F2 J2 G2 lh2 mv2 (nI 0) wk2 wv2 → wp_M_put (nI (8 * 2 ^ t)) F J G lh mv (nI 0) wk wv key v post) := by
  obtain ⟨r1, r2, r3, hs, hout, hR, hV⟩ := id hR0
  have h6 := n_p6 r3
  by_cases hk : key = NOK
  · refine ⟨-1, K, V, t, lh, mv, F, J, G, wk, wv, hR0, Or.inl rfl, fun post h => ?_, fun post h => ?_⟩
    · unfold wp_S_put; exact ⟨fun _ => h, fun c => absurd hk c⟩
    · unfold wp_M_put; exact ⟨fun _ => h, fun c => absurd hk c⟩
  by_cases he : ∃ i, i < 8 * 2 ^ t ∧ K i ≠ NOK ∧ K i = key
  · obtain ⟨i, i1, i2, i3⟩ := he
    have uq : ∀ j, j < 8 * 2 ^ t → K j ≠ NOK → K j = key → j = i := by
      intro j j1 j2 j3
      rcases Nat.lt_trichotomy j i with q | q | q
      · exact absurd (hs j i q (by omega) j2 i2) (by rw [j3, i3]; exact l_irr)
      · exact q
      · exact absurd (hs i j q (by omega) i2 j2) (by rw [j3, i3]; exact l_irr)
    have none : ¬ (∀ j, j < 8 * 2 ^ t → K j ≠ NOK → K j ≠ key) := fun z => z i i1 i2 i3
    refine ⟨0, K, vp_updL V i v, t, lh, mv, F, J, vp_updL G i v, wk, wv, ⟨r1, r2, r3, hs, hout, hR, fun j hj hf => ?_⟩, Or.inr (Or.inl rfl), fun post h => ?_, fun post h => ?_⟩
    · by_cases z : j = i
      · rw [z, pk_uLs, pk_uLs]
      · rw [pk_uLn z, pk_uLn z]; exact hV j hj hf
    · unfold wp_S_put
      refine ⟨fun c => absurd c hk, fun _ => ?_⟩
      refine p_S_cellOf r3 hs hout (fun j j1 j2 j3 => ?_) (fun z => absurd z none)
      obtain rfl := uq j j1 j2 j3
      rw [nI_clamp (by omega)]
      exact ⟨fun c => absurd c (n_m1 (by omega)), fun _ => ⟨vp_in_nI (by omega) (by decide), h⟩⟩
    · unfold wp_M_put
      refine ⟨fun c => absurd c hk, fun _ => ?_⟩
      refine p_M_cellOf hR (by omega) (fun j j1 j2 j3 => ?_) (fun z => absurd z none)
      obtain rfl := uq j j1 j2 j3
      rw [nI_clamp (by omega)]
      exact ⟨fun c => absurd c (nI_pos (by omega)), fun _ => ⟨vp_in_nI (by omega) (by decide), h⟩⟩
  have hno : ∀ i, i < 8 * 2 ^ t → K i ≠ NOK → K i ≠ key := fun i i1 i2 i3 => he ⟨i, i1, i2, i3⟩
  have hno2 : ∀ i, i < 512 → K i ≠ NOK → K i ≠ key := by
    intro i i1 i2
    rcases Nat.lt_or_ge i (8 * 2 ^ t) with q | q
    · exact hno i q i2
    · exact absurd (hout i q i1) i2
  have hg := sg_lt K t key
  obtain ⟨sA, sB, -⟩ := sg_ok key r3 hs hout
  have toS : ∀ post : Int32 → (Nat → Int64) → (Nat → Int64) → Int32 → Int32 → Int64 → Prop, wp_S_putNew K V (nI t) lh mv key v (fun r K2 V2 lv2 lh2 mv2 => (r = 0 → post (-1) K2 V2 lv2 lh2 mv2) ∧ (¬ r = 0 → post 1 K2 V2 lv2 lh2 mv2)) → wp_S_put K V (nI t) lh mv key v post := by
    intro post hp
    unfold wp_S_put
    refine ⟨fun c => absurd c hk, fun _ => ?_⟩
    refine p_S_cellOf r3 hs hout (fun j j1 j2 j3 => absurd j3 (hno j j1 j2)) (fun _ => ?_)
    exact ⟨fun _ => hp, fun c => absurd rfl c⟩
  have toM : ∀ post : Int32 → Int32 → (Nat → Int32) → (Nat → Int64) → (Nat → Int64) → Int32 → Int64 → Int32 → (Nat → Int64) → (Nat → Int64) → Prop, (∃ n0, wp_M_put_L48 key v (nI (sg K t key)) (nI t) post n0 0 (nI (8 * 2 ^ t)) F J G lh mv (nI 0) wk wv) → wp_M_put (nI (8 * 2 ^ t)) F J G lh mv (nI 0) wk wv key v post := by
    intro post hp
    unfold wp_M_put
    refine ⟨fun c => absurd c hk, fun _ => ?_⟩
    refine p_M_cellOf hR (by omega) (fun j j1 j2 j3 => absurd j3 (hno j j1 j2)) (fun _ => ?_)
    refine ⟨fun _ => ?_, fun c => absurd (by decide) c⟩
    exact p_M_seek hR r3 (p_M_levels r3 hp)
  by_cases hr : ∃ h, h ≤ t ∧ okR K t (sg K t key) h
  · obtain ⟨h, ⟨h1, h2⟩, h3⟩ := pk_least (fun h => h ≤ t ∧ okR K t (sg K t key) h) hr
    have h3' : ∀ j, j < h → ¬ okR K t (sg K t key) j := fun j hj q => h3 j hj ⟨by omega, q⟩
    obtain ⟨w1, w2, w3⟩ := wf_in r3 h1 hg
    have hm := (n_mf r3 h1 (by omega)).2.2
    obtain ⟨K2, V2, F2, J2, G2, wk2, wv2, q1, q2, q3⟩ := place_ok (a := wf (sg K t key) h) (w := 8 * 2 ^ h) (h := h) (key := key) (v := v) (lh := lh) (mv := mv) (wk := wk) (wv := wv) hR0 (Nat.le_refl t) r3 (by omega) w1 (Nat.le_refl _) (fun i z1 z2 => absurd z1 (by omega)) (by unfold okR at h2; omega) hk hno2 (fun q z1 z2 => sA q (by omega) z2) (fun q z1 z2 z3 => sB q (by omega) z2 z3)
    refine ⟨1, K2, V2, t, nI h, mv + (nI (cnt K (wf (sg K t key) h) (8 * 2 ^ h) + 1)).toInt64, F2, J2, G2, wk2, wv2, q1, Or.inr (Or.inr rfl), fun post hp => toS post ?_, fun post hp => toM post ?_⟩
    · unfold wp_S_putNew
      refine p_S_seek r3 ?_
      refine p_S_heightWithRoom r3 (by omega) hg (fun h' z1 z2 z3 => ?_) (fun z => absurd h2 (z h h1))
      have e : h' = h := by
        rcases Nat.lt_trichotomy h' h with y | y | y
        · exact absurd z2 (h3' h' y)
        · exact y
        · exact absurd h2 (z3 h y)
      rw [e]
      refine ⟨fun c => absurd c (n_m1 (by omega)), fun _ => ?_⟩
      refine p_S_firstCell (by omega) (by omega) ?_
      refine p_S_windowCells (by omega) ?_
      exact q2 _ ⟨fun c => absurd c (by decide), fun _ => hp⟩
    · exact M_put_hit hR r3 (by omega) hg h1 h2 h3' (q3 (fun F' J' G' wi' mo' wa' wk' wv' => post 1 (nI (8 * 2 ^ t)) F' J' G' wi' mo' wa' wk' wv') hp)
  · have hnr : ∀ h, h ≤ t → ¬ okR K t (sg K t key) h := fun h z1 z2 => hr ⟨h, z1, z2⟩
    rcases Nat.lt_or_ge t 6 with t5 | t6
    · have e1 : 8 * 2 ^ (t + 1) = 8 * 2 ^ t + 8 * 2 ^ t := by rw [n_p1]; omega
      have hcl := cnt_le K 0 (8 * 2 ^ t)
      have hpp := n_pp t
      have h7 := n_p6 (show t + 1 ≤ 6 by omega)
      obtain ⟨K2, V2, F2, J2, G2, wk2, wv2, q1, q2, q3⟩ := place_ok (t' := t + 1) (a := 0) (w := 8 * 2 ^ t) (h := t + 1) (key := key) (v := v) (lh := lh) (mv := mv) (wk := wk) (wv := wv) hR0 (by omega) (by omega) (by omega) (by omega) (by omega) (fun i z1 z2 => by rw [Nat.zero_add]; exact hout i z1 (by omega)) (by omega) hk hno2 (fun q z1 z2 => absurd z1 (by omega)) (fun q z1 z2 z3 => absurd (hout q (by omega) z2) z3)
      refine ⟨1, K2, V2, t + 1, nI (t + 1), mv + (nI (cnt K 0 (8 * 2 ^ t) + 1)).toInt64, F2, J2, G2, wk2, wv2, q1, Or.inr (Or.inr rfl), fun post hp => toS post ?_, fun post hp => toM post ?_⟩
      · unfold wp_S_putNew
        refine p_S_seek r3 ?_
        refine p_S_heightWithRoom r3 (by omega) hg (fun h' z1 z2 z3 => absurd z2 (hnr h' z1)) (fun _ => ?_)
        refine ⟨fun _ => ?_, fun c => absurd rfl c⟩
        refine p_S_cells r3 ?_
        refine pk_eq (8 * 2 ^ t) 512 (fun q => absurd q ?_) (fun q => ?_) rfl rfl (by omega) (by decide)
        · have : 2 ^ t ≤ 2 ^ 5 := Nat.pow_le_pow_right (by decide) (by omega)
          omega
        · rw [nI_1]
          refine p_S_firstCell (by omega) (by omega) ?_
          have ew : wf (sg K t key) (t + 1) = 0 := by
            unfold wf
            rw [Nat.div_eq_of_lt (by rw [n_p1]; omega), Nat.zero_mul]
          rw [ew]
          refine p_S_windowCells (by omega) ?_
          exact q2 _ ⟨fun c => absurd c (by decide), fun _ => hp⟩
      · exact M_put_none hR r3 (by omega) hg hnr (fun z => absurd z (by omega)) (fun _ => q3 (fun F' J' G' wi' mo' wa' wk' wv' => post 1 (nI (8 * 2 ^ (t + 1))) F' J' G' wi' mo' wa' wk' wv') hp)
    · obtain rfl : t = 6 := by omega
      refine ⟨-1, K, V, 6, lh, mv, F, J, G, wk, wv, hR0, Or.inl rfl, fun post hp => toS post ?_, fun post hp => toM post ?_⟩
      · unfold wp_S_putNew
        refine p_S_seek r3 ?_
        refine p_S_heightWithRoom r3 (by omega) hg (fun h' z1 z2 z3 => absurd z2 (hnr h' z1)) (fun _ => ?_)
        refine ⟨fun _ => ?_, fun c => absurd rfl c⟩
        refine p_S_cells r3 ?_
        refine ⟨fun _ => ⟨fun _ => hp, fun c => absurd rfl c⟩, fun c => absurd (by decide) c⟩
      · exact M_put_none hR r3 (by omega) hg hnr (fun _ => hp) (fun z => absurd z (by omega))
