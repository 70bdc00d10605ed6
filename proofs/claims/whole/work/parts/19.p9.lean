/-! Both sides of a change: the same row, spread the same way. -/
theorem cnt_surj {K : Nat → Int64} {a : Nat} : ∀ {w j : Nat}, j < cnt K a w → ∃ i, i < w ∧ K (a + i) ≠ NOK ∧ cnt K a i = j
  | 0, j, h => absurd h (by rw [cnt]; omega)
  | w + 1, j, h => by
    rw [cnt_s] at h
    by_cases c : K (a + w) = NOK
    · rw [if_pos c] at h
      obtain ⟨i, h1, h2, h3⟩ := cnt_surj h
      exact ⟨i, by omega, h2, h3⟩
    · rw [if_neg c] at h
      rcases Nat.lt_or_ge j (cnt K a w) with q | q
      · obtain ⟨i, h1, h2, h3⟩ := cnt_surj q
        exact ⟨i, by omega, h2, h3⟩
      · exact ⟨w, by omega, c, by omega⟩
/-- the j-th full cell's X, of the w cells at a -/
def row (K X : Nat → Int64) (a : Nat) : Nat → Nat → Int64
  | 0, _ => 0
  | w + 1, j => if K (a + w) ≠ NOK ∧ j = cnt K a w then X (a + w) else row K X a w j
theorem row_s (K X : Nat → Int64) (a w j : Nat) : row K X a (w + 1) j = if K (a + w) ≠ NOK ∧ j = cnt K a w then X (a + w) else row K X a w j := rfl
theorem row_at {K X : Nat → Int64} {a : Nat} : ∀ {w i : Nat}, i < w → K (a + i) ≠ NOK → row K X a w (cnt K a i) = X (a + i)
  | 0, i, h, _ => absurd h (by omega)
  | w + 1, i, h, hf => by
    rw [row_s]
    rcases Nat.lt_or_ge i w with q | q
    · have := cnt_full hf q
      rw [if_neg (fun z => absurd z.2 (by omega))]
      exact row_at q hf
    · obtain rfl : i = w := by omega
      rw [if_pos ⟨hf, rfl⟩]
theorem row_of {K X f : Nat → Int64} {a w : Nat} (h : ∀ i, i < w → K (a + i) ≠ NOK → f (cnt K a i) = X (a + i)) : ∀ j, j < cnt K a w → f j = row K X a w j := by
  intro j hj
  obtain ⟨i, h1, h2, rfl⟩ := cnt_surj hj
  rw [h i h1 h2, row_at h1 h2]
theorem ip_congr {f f' : Nat → Int64} {key : Int64} : ∀ {n : Nat}, (∀ j, j < n → f j = f' j) → ip f key n = ip f' key n
  | 0, _ => rfl
  | n + 1, h => by rw [ip_s, ip_s, h n (by omega), ip_congr (fun j hj => h j (by omega))]
theorem kI_congr {f f' : Nat → Int64} {key : Int64} {p n j : Nat} (h : ∀ j, j < n → f j = f' j) (hp : p ≤ n) (hj : j ≤ n) : kI f key p j = kI f' key p j := by
  unfold kI
  by_cases c : j < p
  · rw [if_pos c, if_pos c]; exact h j (by omega)
  · rw [if_neg c, if_neg c]
    by_cases c2 : j = p
    · rw [if_pos c2, if_pos c2]
    · rw [if_neg c2, if_neg c2]; exact h (j - 1) (by omega)
theorem ip_lo {f : Nat → Int64} {key : Int64} : ∀ {n : Nat}, ∀ j, ip f key n = j + 1 → f j ≤ key
  | 0, j, h => absurd h (by rw [ip]; omega)
  | n + 1, j, h => by
    rw [ip_s] at h
    by_cases c : f n ≤ key
    · rw [if_pos c] at h
      obtain rfl : n = j := by omega
      exact c
    · rw [if_neg c] at h
      exact ip_lo j h
theorem ip_hi {f : Nat → Int64} {key : Int64} : ∀ {n : Nat}, ∀ j, ip f key n ≤ j → j < n → key < f j
  | 0, j, _, h => absurd h (by omega)
  | n + 1, j, h1, h2 => by
    rw [ip_s] at h1
    by_cases c : f n ≤ key
    · rw [if_pos c] at h1; omega
    · rw [if_neg c] at h1
      rcases Nat.lt_or_ge j n with q | q
      · exact ip_hi j h1 q
      · obtain rfl : j = n := by omega
        exact l_nle.mp c
/-- pack, join, spread: the store -/
theorem S_join {K V : Nat → Int64} {a h : Nat} {key v : Int64} {lh : Int32} {mv : Int64} (hh : h ≤ 6) (hw : a + 8 * 2 ^ h ≤ 512) (hn : cnt K a (8 * 2 ^ h) < 8 * 2 ^ h) :
    ∃ K2 V2, Ar K V a (8 * 2 ^ h) (cnt K a (8 * 2 ^ h) + 1) (kI (row K K a (8 * 2 ^ h)) key (ip (row K K a (8 * 2 ^ h)) key (cnt K a (8 * 2 ^ h)))) (kI (row K V a (8 * 2 ^ h)) v (ip (row K K a (8 * 2 ^ h)) key (cnt K a (8 * 2 ^ h)))) K2 V2 ∧
      ∀ post : (Nat → Int64) → (Nat → Int64) → Int32 → Int64 → Prop, post K2 V2 (nI h) (mv + (nI (cnt K a (8 * 2 ^ h) + 1)).toInt64) →
        wp_S_pack K V (nI a) (nI (8 * 2 ^ h)) (fun r K1 V1 => wp_S_insertPacked K1 V1 (nI a) r key v (fun K2 V2 => wp_S_spreadPacked K2 V2 lh mv (nI a) (nI h) (r + 1) post)) := by
  have h6 := n_p6 hh
  obtain ⟨K1, V1, ⟨p1, p2, p3⟩, hpk⟩ := p_S_pack (K := K) (V := V) hw
  have hf1 : ∀ j, j < cnt K a (8 * 2 ^ h) → K1 (a + j) = row K K a (8 * 2 ^ h) j := row_of (f := fun j => K1 (a + j)) (fun i hi hf => (p1 i hi hf).1)
  have hg1 : ∀ j, j < cnt K a (8 * 2 ^ h) → V1 (a + j) = row K V a (8 * 2 ^ h) j := row_of (f := fun j => V1 (a + j)) (fun i hi hf => (p1 i hi hf).2)
  have e1 : ip (fun i => K1 (a + i)) key (cnt K a (8 * 2 ^ h)) = ip (row K K a (8 * 2 ^ h)) key (cnt K a (8 * 2 ^ h)) := ip_congr hf1
  have hip := ip_le (row K K a (8 * 2 ^ h)) key (cnt K a (8 * 2 ^ h))
  obtain ⟨K2, V2, q1, q2, hin⟩ := p_S_insertPacked (K := K1) (V := V1) (a := a) (n := cnt K a (8 * 2 ^ h)) (key := key) (v := v) (by omega)
  rw [e1] at q1
  have q3 : ∀ j, j < cnt K a (8 * 2 ^ h) + 1 → K2 (a + j) = kI (row K K a (8 * 2 ^ h)) key (ip (row K K a (8 * 2 ^ h)) key (cnt K a (8 * 2 ^ h))) j ∧ V2 (a + j) = kI (row K V a (8 * 2 ^ h)) v (ip (row K K a (8 * 2 ^ h)) key (cnt K a (8 * 2 ^ h))) j := by
    intro j hj
    obtain ⟨z1, z2⟩ := q1 j (by omega)
    rw [z1, z2]
    exact ⟨kI_congr hf1 hip (by omega), kI_congr hg1 hip (by omega)⟩
  obtain ⟨K3, V3, hA, hsp⟩ := p_S_spreadPacked (K := K2) (V := V2) (lh := lh) (mv := mv) (a := a) (n := cnt K a (8 * 2 ^ h) + 1) hh hw (by omega) q3 (fun p hp1 hp2 => by
    rw [(q2 (a + p) (by omega)).1]
    exact p2 p (by omega) hp2)
  refine ⟨K3, V3, ⟨hA.1, hA.2.1, fun q hq => ?_⟩, fun post hp => ?_⟩
  · obtain ⟨z1, z2⟩ := hA.2.2 q hq
    obtain ⟨z3, z4⟩ := q2 q (by omega)
    obtain ⟨z5, z6⟩ := p3 q hq
    exact ⟨z1.trans (z3.trans z5), z2.trans (z4.trans z6)⟩
  · refine hpk _ (hin _ ?_)
    rw [nI_1]
    exact hsp post hp
/-- pack, spread over a window (the same, or half of it): the store -/
theorem S_again {K V : Nat → Int64} {a w h : Nat} {lh : Int32} {mv : Int64} (hh : h ≤ 6) (hw : a + w ≤ 512) (hw2 : 8 * 2 ^ h ≤ w) (hn : cnt K a w ≤ 8 * 2 ^ h) :
    ∃ K2 V2, (∀ j, j < cnt K a w → K2 (a + j * (8 * 2 ^ h) / cnt K a w) = row K K a w j ∧ V2 (a + j * (8 * 2 ^ h) / cnt K a w) = row K V a w j) ∧ (∀ p, p < w → (∀ j, j < cnt K a w → p ≠ j * (8 * 2 ^ h) / cnt K a w) → K2 (a + p) = NOK) ∧ (∀ q, q < a ∨ a + w ≤ q → K2 q = K q ∧ V2 q = V q) ∧
      ∀ post : (Nat → Int64) → (Nat → Int64) → Int32 → Int64 → Prop, post K2 V2 (nI h) (mv + (nI (cnt K a w)).toInt64) → wp_S_pack K V (nI a) (nI w) (fun r K1 V1 => wp_S_spreadPacked K1 V1 lh mv (nI a) (nI h) r post) := by
  have h6 := n_p6 hh
  obtain ⟨K1, V1, ⟨p1, p2, p3⟩, hpk⟩ := p_S_pack (K := K) (V := V) hw
  have hf1 : ∀ j, j < cnt K a w → K1 (a + j) = row K K a w j ∧ V1 (a + j) = row K V a w j := fun j hj =>
    ⟨row_of (f := fun j => K1 (a + j)) (fun i hi hf => (p1 i hi hf).1) j hj, row_of (f := fun j => V1 (a + j)) (fun i hi hf => (p1 i hi hf).2) j hj⟩
  obtain ⟨K3, V3, hA, hsp⟩ := p_S_spreadPacked (K := K1) (V := V1) (lh := lh) (mv := mv) (a := a) (n := cnt K a w) hh (by omega) hn hf1 (fun p hp1 hp2 => p2 p hp1 (by omega))
  refine ⟨K3, V3, hA.1, fun p hp1 hq => ?_, fun q hq => ?_, fun post hp => hpk _ (hsp post hp)⟩
  · rcases Nat.lt_or_ge p (8 * 2 ^ h) with z | z
    · exact hA.2.1 p z hq
    · rw [(hA.2.2 (a + p) (by omega)).1]
      exact p2 p (by omega) hp1
  · obtain ⟨z1, z2⟩ := hA.2.2 q (by omega)
    obtain ⟨z5, z6⟩ := p3 q hq
    exact ⟨z1.trans z5, z2.trans z6⟩
/-- lift (w cells), join, spread (over 8 * 2^h): the reference -/
theorem M_join {K V : Nat → Int64} {F : Nat → Int32} {J G wk wv : Nat → Int64} {a w h : Nat} {key v : Int64} {wi : Int32} {mo : Int64} (hR : Rm K F J) (hV : ∀ i, i < 512 → K i ≠ NOK → G i = V i)
    (hh : h ≤ 6) (hw : a + w ≤ 512) (hw2 : a + 8 * 2 ^ h ≤ 512) (hn : cnt K a w < 8 * 2 ^ h) :
    ∃ F1 F2 J2 G2 wk2 wv2, (∀ q, a ≤ q → q < a + w → F1 q = 0) ∧ (∀ q, q < a ∨ a + w ≤ q → F1 q = F q) ∧ ArM F1 J G a (8 * 2 ^ h) (cnt K a w + 1) (kI (row K K a w) key (ip (row K K a w) key (cnt K a w))) (kI (row K V a w) v (ip (row K K a w) key (cnt K a w))) F2 J2 G2 ∧
      ∀ post : (Nat → Int32) → (Nat → Int64) → (Nat → Int64) → Int32 → Int64 → Int32 → (Nat → Int64) → (Nat → Int64) → Prop, post F2 J2 G2 (nI h) (mo + (nI (cnt K a w + 1)).toInt64) (nI 0) wk2 wv2 →
        wp_M_lift F J G (nI 0) wk wv (nI a) (nI w) (fun F1 wa1 wk1 wv1 => wp_M_join wa1 wk1 wv1 key v (fun wa2 wk2 wv2 => wp_M_spread F1 J G wi mo wa2 wk2 wv2 (nI a) (nI h) (fun F' J' G' wi' mo' wa' => post F' J' G' wi' mo' wa' wk2 wv2))) := by
  have hl := cnt_le K a w
  obtain ⟨F1, wk1, wv1, q1, q2, q3, hli⟩ := p_M_lift (wk := wk) (wv := wv) hR hV hw
  have hf1 : ∀ j, j < cnt K a w → wk1 j = row K K a w j := row_of (fun i hi hf => (q3 i hi hf).1)
  have hg1 : ∀ j, j < cnt K a w → wv1 j = row K V a w j := row_of (fun i hi hf => (q3 i hi hf).2)
  have e1 : ip wk1 key (cnt K a w) = ip (row K K a w) key (cnt K a w) := ip_congr hf1
  have hip := ip_le (row K K a w) key (cnt K a w)
  obtain ⟨wk2, wv2, q4, hjo⟩ := p_M_join (wk := wk1) (wv := wv1) (n := cnt K a w) (key := key) (v := v) (by omega)
  rw [e1] at q4
  obtain ⟨F2, J2, G2, hA, hsp⟩ := p_M_spread (F := F1) (J := J) (G := G) (wk := wk2) (wv := wv2) (wi := wi) (mo := mo) (a := a) (n := cnt K a w + 1) hh hw2 (by omega)
  refine ⟨F1, F2, J2, G2, wk2, wv2, q1, q2, ⟨fun j hj => ?_, hA.2.1, hA.2.2⟩, fun post hp => hli _ (hjo _ (hsp _ hp))⟩
  obtain ⟨z1, z2, z3⟩ := hA.1 j hj
  obtain ⟨z4, z5⟩ := q4 j (by omega)
  refine ⟨z1, ?_, ?_⟩
  · rw [z2, z4]; exact kI_congr hf1 hip (by omega)
  · rw [z3, z5]; exact kI_congr hg1 hip (by omega)
theorem M_again {K V : Nat → Int64} {F : Nat → Int32} {J G wk wv : Nat → Int64} {a w h : Nat} {wi : Int32} {mo : Int64} (hR : Rm K F J) (hV : ∀ i, i < 512 → K i ≠ NOK → G i = V i)
    (hh : h ≤ 6) (hw : a + w ≤ 512) (hw2 : a + 8 * 2 ^ h ≤ 512) (hn : cnt K a w ≤ 8 * 2 ^ h) :
    ∃ F1 F2 J2 G2 wk2 wv2, (∀ q, a ≤ q → q < a + w → F1 q = 0) ∧ (∀ q, q < a ∨ a + w ≤ q → F1 q = F q) ∧ ArM F1 J G a (8 * 2 ^ h) (cnt K a w) (row K K a w) (row K V a w) F2 J2 G2 ∧
      ∀ post : (Nat → Int32) → (Nat → Int64) → (Nat → Int64) → Int32 → Int64 → Int32 → (Nat → Int64) → (Nat → Int64) → Prop, post F2 J2 G2 (nI h) (mo + (nI (cnt K a w)).toInt64) (nI 0) wk2 wv2 →
        wp_M_lift F J G (nI 0) wk wv (nI a) (nI w) (fun F1 wa1 wk1 wv1 => wp_M_spread F1 J G wi mo wa1 wk1 wv1 (nI a) (nI h) (fun F' J' G' wi' mo' wa' => post F' J' G' wi' mo' wa' wk1 wv1)) := by
  have hl := cnt_le K a w
  obtain ⟨F1, wk1, wv1, q1, q2, q3, hli⟩ := p_M_lift (wk := wk) (wv := wv) hR hV hw
  have hf1 : ∀ j, j < cnt K a w → wk1 j = row K K a w j := row_of (fun i hi hf => (q3 i hi hf).1)
  have hg1 : ∀ j, j < cnt K a w → wv1 j = row K V a w j := row_of (fun i hi hf => (q3 i hi hf).2)
  obtain ⟨F2, J2, G2, hA, hsp⟩ := p_M_spread (F := F1) (J := J) (G := G) (wk := wk1) (wv := wv1) (wi := wi) (mo := mo) (a := a) (n := cnt K a w) hh hw2 (by omega)
  refine ⟨F1, F2, J2, G2, wk1, wv1, q1, q2, ⟨fun j hj => ?_, hA.2.1, hA.2.2⟩, fun post hp => hli _ (hsp _ hp)⟩
  obtain ⟨z1, z2, z3⟩ := hA.1 j hj
  exact ⟨z1, z2.trans (hf1 j hj), z3.trans (hg1 j hj)⟩
/-- the two sides agree behind it: w cells at a were taken out, 8 * 2^h = W of them are laid anew -/
theorem tie {K V K' V' : Nat → Int64} {F F1 F' : Nat → Int32} {J G J' G' : Nat → Int64} {a w W1 n : Nat} {f g : Nat → Int64} (hR : Rm K F J) (hV : ∀ i, i < 512 → K i ≠ NOK → G i = V i) (hfn : ∀ j, j < n → f j ≠ NOK) (hn : 0 < n → n ≤ W1)
    (k1 : ∀ j, j < n → K' (a + j * W1 / n) = f j ∧ V' (a + j * W1 / n) = g j) (k2 : ∀ p, p < w ∨ p < W1 → (∀ j, j < n → p ≠ j * W1 / n) → K' (a + p) = NOK) (k3 : ∀ q, q < a ∨ (a + w ≤ q ∧ a + W1 ≤ q) → K' q = K q ∧ V' q = V q)
    (m1 : ∀ q, a ≤ q → q < a + w → F1 q = 0) (m2 : ∀ q, q < a ∨ a + w ≤ q → F1 q = F q) (hout : ∀ q, a + w ≤ q → q < a + W1 → F q = 0) (m3 : ArM F1 J G a W1 n f g F' J' G') :
    Rm K' F' J' ∧ (∀ i, i < 512 → K' i ≠ NOK → G' i = V' i) := by
  obtain ⟨a1, a2, a3⟩ := m3
  have main : ∀ i, i < 512 → ((F' i = 0 ↔ K' i = NOK) ∧ (K' i ≠ NOK → J' i = K' i)) ∧ (K' i ≠ NOK → G' i = V' i) := by
    intro i hi
    by_cases c : i < a ∨ (a + w ≤ i ∧ a + W1 ≤ i)
    · obtain ⟨z1, z2⟩ := k3 i c
      obtain ⟨y1, y2, y3⟩ := a3 i (by omega)
      have y4 := m2 i (by omega)
      obtain ⟨r1, r2⟩ := hR i hi
      rw [z1, z2, y1, y2, y3, y4]
      exact ⟨⟨r1, r2⟩, hV i hi⟩
    · obtain ⟨p, rfl⟩ : ∃ p, i = a + p := ⟨i - a, by omega⟩
      by_cases d : ∃ j, j < n ∧ p = j * W1 / n
      · obtain ⟨j, hj, rfl⟩ := d
        obtain ⟨z1, z2⟩ := k1 j hj
        obtain ⟨y1, y2, y3⟩ := a1 j hj
        rw [z1, z2, y1, y2, y3]
        exact ⟨⟨⟨fun q => absurd q (by decide), fun q => absurd q (hfn j hj)⟩, fun _ => rfl⟩, fun _ => rfl⟩
      · have d2 : ∀ j, j < n → p ≠ j * W1 / n := fun j hj q => d ⟨j, hj, q⟩
        have z1 := k2 p (by omega) d2
        rw [z1]
        refine ⟨⟨⟨fun _ => rfl, fun _ => ?_⟩, fun q => absurd rfl q⟩, fun q => absurd rfl q⟩
        rcases Nat.lt_or_ge p W1 with e | e
        · rw [a2 p e d2]
          rcases Nat.lt_or_ge p w with e2 | e2
          · exact m1 _ (by omega) (by omega)
          · rw [m2 _ (by omega)]
            exact hout _ (by omega) (by omega)
        · rw [(a3 (a + p) (by omega)).1]
          exact m1 _ (by omega) (by omega)
  exact ⟨fun i hi => (main i hi).1, fun i hi => (main i hi).2⟩
/-- the spread row rises, and lies between what is before and behind: all rises -/
theorem srt_ar {K K' : Nat → Int64} {a w W1 n : Nat} {f : Nat → Int64} (hs : Srt K) (hn : 0 < n → n ≤ W1) (hf : ∀ i j, i < j → j < n → f i < f j)
    (k1 : ∀ j, j < n → K' (a + j * W1 / n) = f j) (k2 : ∀ p, p < w ∨ p < W1 → (∀ j, j < n → p ≠ j * W1 / n) → K' (a + p) = NOK) (k3 : ∀ q, q < a ∨ (a + w ≤ q ∧ a + W1 ≤ q) → K' q = K q)
    (b1 : ∀ q j, q < a → K q ≠ NOK → j < n → K q < f j) (b2 : ∀ q j, a + w ≤ q → q < 512 → K q ≠ NOK → j < n → f j < K q) : Srt K' := by
  have inw : ∀ i, K' i ≠ NOK → ¬ (i < a ∨ (a + w ≤ i ∧ a + W1 ≤ i)) → ∃ j, j < n ∧ i = a + j * W1 / n := by
    intro i hi c
    obtain ⟨p, rfl⟩ : ∃ p, i = a + p := ⟨i - a, by omega⟩
    by_cases d : ∃ j, j < n ∧ p = j * W1 / n
    · obtain ⟨j, hj, rfl⟩ := d
      exact ⟨j, hj, rfl⟩
    · exact absurd (k2 p (by omega) (fun j hj q => d ⟨j, hj, q⟩)) hi
  intro i j hij hj fi fj
  by_cases ci : i < a ∨ (a + w ≤ i ∧ a + W1 ≤ i)
  · have e1 := k3 i ci
    by_cases cj : j < a ∨ (a + w ≤ j ∧ a + W1 ≤ j)
    · have e2 := k3 j cj
      rw [e1] at fi ⊢
      rw [e2] at fj ⊢
      exact hs i j hij hj fi fj
    · obtain ⟨jj, h1, h2⟩ := inw j fj cj
      rw [e1] at fi ⊢
      rw [h2, k1 jj h1]
      exact b1 i jj (by omega) fi h1
  · obtain ⟨ii, g1, g2⟩ := inw i fi ci
    by_cases cj : j < a ∨ (a + w ≤ j ∧ a + W1 ≤ j)
    · have e2 := k3 j cj
      rw [e2] at fj ⊢
      rw [g2, k1 ii g1]
      exact b2 j ii (by omega) hj fj g1
    · obtain ⟨jj, h1, h2⟩ := inw j fj cj
      rw [g2, h2, k1 ii g1, k1 jj h1]
      refine hf ii jj ?_ h1
      rcases Nat.lt_trichotomy ii jj with z | z | z
      · exact z
      · exact absurd (by rw [g2, h2, z]) (Nat.ne_of_lt hij)
      · have := tj_lt (w := W1) (by omega) (hn (by omega)) z
        omega
theorem row_full {K : Nat → Int64} {a w j : Nat} (h : j < cnt K a w) : row K K a w j ≠ NOK ∧ ∃ i, i < w ∧ K (a + i) = row K K a w j ∧ cnt K a i = j := by
  obtain ⟨i, h1, h2, rfl⟩ := cnt_surj h
  rw [row_at h1 h2]
  exact ⟨h2, i, h1, rfl, rfl⟩
theorem row_rise {K : Nat → Int64} {a w : Nat} (hs : Srt K) (hw : a + w ≤ 512) : ∀ i j, i < j → j < cnt K a w → row K K a w i < row K K a w j := by
  intro i j hij hj
  obtain ⟨x, x1, x2, rfl⟩ := cnt_surj hj
  obtain ⟨y, y1, y2, rfl⟩ := cnt_surj (show i < cnt K a w by omega)
  rw [row_at x1 x2, row_at y1 y2]
  refine hs _ _ ?_ (by omega) y2 x2
  rcases Nat.lt_trichotomy y x with z | z | z
  · omega
  · rw [z] at hij; omega
  · have := cnt_full x2 z
    omega
/-- the row with a new key in its place rises -/
theorem kI_rise {f : Nat → Int64} {key : Int64} {n : Nat} (hf : ∀ i j, i < j → j < n → f i < f j) (hk : ∀ j, j < n → f j ≠ key) : ∀ i j, i < j → j < n + 1 → kI f key (ip f key n) i < kI f key (ip f key n) j := by
  have hip := ip_le f key n
  have lo : ∀ j, j < ip f key n → f j < key := by
    intro j hj
    obtain ⟨r, hr⟩ : ∃ r, ip f key n = r + 1 := ⟨ip f key n - 1, by omega⟩
    have h1 := ip_lo r hr
    rcases Nat.lt_or_ge j r with z | z
    · exact l_lt_of_lt_of_le (hf j r z (by omega)) h1
    · obtain rfl : j = r := by omega
      exact l_lt_of_le_ne h1 (hk j (by omega))
  have hi := ip_hi (f := f) (key := key) (n := n)
  intro i j hij hj
  unfold kI
  generalize ip f key n = p at *
  rcases Nat.lt_trichotomy i p with a1 | a1 | a1
  · rw [if_pos a1]
    rcases Nat.lt_trichotomy j p with b1 | b1 | b1
    · rw [if_pos b1]; exact hf i j hij (by omega)
    · rw [if_neg (by omega), if_pos b1]; exact lo i a1
    · rw [if_neg (by omega), if_neg (by omega)]; exact l_lt_trans (lo i a1) (hi (j - 1) (by omega) (by omega))
  · rw [if_neg (by omega), if_pos a1, if_neg (by omega), if_neg (by omega)]
    exact hi (j - 1) (by omega) (by omega)
  · rw [if_neg (by omega), if_neg (by omega), if_neg (by omega), if_neg (by omega)]
    exact hf (i - 1) (j - 1) (by omega) (by omega)
theorem kI_of {f : Nat → Int64} {key : Int64} {p n j : Nat} {P : Int64 → Prop} (hk : P key) (hf : ∀ j, j < n → P (f j)) (hp : p ≤ n) (hj : j < n + 1) : P (kI f key p j) := by
  unfold kI
  by_cases c : j < p
  · rw [if_pos c]; exact hf j (by omega)
  · rw [if_neg c]
    by_cases c2 : j = p
    · rw [if_pos c2]; exact hk
    · rw [if_neg c2]; exact hf (j - 1) (by omega)
