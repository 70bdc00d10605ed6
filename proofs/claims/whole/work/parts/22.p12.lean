/-! The law, in pure words. -/
theorem in_k {i k L : Nat} (h : i + k < L) (hL : L ≤ 3073) : vp_in (nI i + nI k) L := by rw [nI_add]; exact vp_in_nI h (by omega)
theorem n_end {i L : Nat} (hL : L ≤ 3073) (hi : i ≤ 4000) : ((Int32.ofNat L) - 6 < nI i) ↔ L < i + 6 := by
  have e : ((Int32.ofNat L) - 6).toInt = (L : Int) - 6 := pk_sub_toInt (a := L) (b := 6) (by omega) (by decide)
  rw [Int32.lt_iff_toInt_lt, e, nI_toInt (by omega)]
  omega
theorem touched_ok {K : Nat → Int64} {B : Nat → Int32} {F : Nat → Int32} {J : Nat → Int64} {t : Nat} {key : Int64} {b : Int32} {fin : Int32 → (Nat → Int32) → Int32 → Prop} (hR : Rm K F J) (ht : t ≤ 6) (ht1 : 1 ≤ t) (h : ∀ r B2, fin r B2 r) :
    wp_S_touched K B (nI t) key b (fun r B2 => wp_M_touched (nI (8 * 2 ^ t)) F J key b (fun r2 => fin r B2 r2)) := by
  have bad : (b < 1 ∨ ¬ b ≤ 1024) → wp_S_touched K B (nI t) key b (fun r B2 => wp_M_touched (nI (8 * 2 ^ t)) F J key b (fun r2 => fin r B2 r2)) := by
    intro c
    have m : wp_M_touched (nI (8 * 2 ^ t)) F J key b (fun r2 => fin (-1) B r2) := by
      unfold wp_M_touched
      exact ⟨fun _ => h _ _, fun c1 => ⟨fun c2 => by rcases c with c | c; exact absurd c c1; exact absurd c2 c, fun _ => h _ _⟩⟩
    unfold wp_S_touched
    exact ⟨fun _ => m, fun c1 => ⟨fun c2 => by rcases c with c | c; exact absurd c c1; exact absurd c2 c, fun _ => m⟩⟩
  by_cases c1 : b < 1
  · exact bad (Or.inl c1)
  by_cases c2 : b ≤ 1024
  · have c0 : ¬ b < 0 := by
      intro q; apply c1
      rw [Int32.lt_iff_toInt_lt] at q ⊢
      have z0 : (0 : Int32).toInt = 0 := by decide
      have z1 : (1 : Int32).toInt = 1 := by decide
      omega
    obtain ⟨x, hx, rfl⟩ := nI_of2 (n := 1024) (M := 1024) (by decide) c0 c2
    have h1 : 1 ≤ x := by
      rcases Nat.lt_or_ge x 1 with q | q
      · exact absurd (nI_lt (b := 1) q (by decide)) c1
      · exact q
    refine p_S_touched ht ht1 h1 hx (fun B2 => ?_)
    refine p_M_touched hR ht h1 hx ?_
    rw [touched_eq ht h1]
    exact h _ _
  · exact bad (Or.inr c2)
set_option maxHeartbeats 4000000 in
set_option maxRecDepth 100000 in
theorem law_ok {xs : Nat → Int32} {L l0 : Nat} (hL : L ≤ 3073) : ∀ (k i : Nat) (K V : Nat → Int64) (B : Nat → Int32) (t : Nat) (lh : Int32) (mv : Int64) (F : Nat → Int32) (J G wk wv : Nat → Int64), L < i + 6 + 6 * k → i ≤ 4000 → Rl K V t l0 F J G →
    wp_L_loop xs L (nI l0) (nI (8 * 2 ^ l0)) (k + 1) (nI i) K V B (nI t) lh mv (nI (8 * 2 ^ t)) F J G lh mv (nI 0) wk wv := by
  intro k
  induction k with
  | zero =>
    intro i K V B t lh mv F J G wk wv hk hi hR
    rw [wp_L_loop]
    exact ⟨fun _ => trivial, fun c => absurd ((n_end hL hi).mpr (by omega)) c⟩
  | succ k ih =>
    intro i K V B t lh mv F J G wk wv hk hi hR
    rcases Nat.lt_or_ge L (i + 6) with q | q
    · rw [wp_L_loop]
      exact ⟨fun _ => trivial, fun c => absurd ((n_end hL hi).mpr q) c⟩
    have nxt : nI i + 6 = nI (i + 6) := nI_add i 6
    have goon : ∀ (K V : Nat → Int64) (B : Nat → Int32) (t : Nat) (lh : Int32) (mv : Int64) (F : Nat → Int32) (J G wk wv : Nat → Int64), Rl K V t l0 F J G → wp_L_loop xs L (nI l0) (nI (8 * 2 ^ l0)) (k + 1) (nI i + 6) K V B (nI t) lh mv (nI (8 * 2 ^ t)) F J G lh mv (nI 0) wk wv := by
      intro K V B t lh mv F J G wk wv hR
      rw [nxt]
      exact ih (i + 6) K V B t lh mv F J G wk wv (by omega) (by omega) hR
    obtain ⟨r1, r2, r3, hs, hout, hRm, hV⟩ := id hR
    have h6 := n_p6 r3
    have i0 : vp_in (nI i) L := vp_in_nI (by omega) (by omega)
    have i1 : vp_in (nI i + 1) L := in_k (k := 1) (by omega) hL
    have i2 : vp_in (nI i + 2) L := in_k (k := 2) (by omega) hL
    have i3 : vp_in (nI i + 3) L := in_k (k := 3) (by omega) hL
    have i4 : vp_in (nI i + 4) L := in_k (k := 4) (by omega) hL
    have i5 : vp_in (nI i + 5) L := in_k (k := 5) (by omega) hL
    have stay := goon K V B t lh mv F J G wk wv hR
    rw [wp_L_loop]
    refine ⟨fun c => absurd ((n_end hL hi).mp c) (by omega), fun _ => ⟨i0, ?_⟩⟩
    refine ⟨fun _ => ?_, fun _ => ?_, fun _ => ?_, fun _ => ?_, fun _ => ?_, fun _ => ?_, fun _ => ?_, fun _ => ?_, fun _ => ?_, fun _ => ?_, fun _ => ?_, fun _ => ?_, fun _ => ?_, fun _ => ?_, fun _ => ?_, fun _ => ?_, fun _ => ?_, fun _ => ?_, fun _ => ?_, stay⟩
    · refine ⟨i1, i2, i3, i4, ?_⟩
      obtain ⟨r, K2, V2, t2, lh2, mv2, F2, J2, G2, wk2, wv2, p1, pr, p2, p3⟩ := put_ok (((xs (nI i + 1).toNatClampNeg).toInt64 <<< ((32 : Int32).toInt64 &&& 63)) ||| ((xs (nI i + 2).toNatClampNeg).toInt64 &&& 4294967295)) (((xs (nI i + 3).toNatClampNeg).toInt64 <<< ((32 : Int32).toInt64 &&& 63)) ||| ((xs (nI i + 4).toNatClampNeg).toInt64 &&& 4294967295)) lh mv wk wv hR
      refine p2 _ (p3 _ ?_)
      exact ⟨fun _ => goon K2 V2 B t2 lh2 mv2 F2 J2 G2 wk2 wv2 p1, fun c => absurd rfl c⟩
    · refine ⟨i1, i2, i3, i4, i5, ?_⟩
      obtain ⟨r, K2, V2, t2, lh2, mv2, F2, J2, G2, wk2, wv2, p1, p2, p3⟩ := fill_ok (((xs (nI i + 1).toNatClampNeg).toInt64 <<< ((32 : Int32).toInt64 &&& 63)) ||| ((xs (nI i + 2).toNatClampNeg).toInt64 &&& 4294967295)) (((xs (nI i + 3).toNatClampNeg).toInt64 <<< ((32 : Int32).toInt64 &&& 63)) ||| ((xs (nI i + 4).toNatClampNeg).toInt64 &&& 4294967295)) (xs (nI i + 5).toNatClampNeg) lh mv wk wv hR
      refine p2 _ (p3 _ ?_)
      exact ⟨fun _ => goon K2 V2 B t2 lh2 mv2 F2 J2 G2 wk2 wv2 p1, fun c => absurd rfl c⟩
    · refine ⟨i1, i2, ?_⟩
      obtain ⟨r, K2, V2, t2, lh2, mv2, F2, J2, G2, wk2, wv2, p1, p2, p3⟩ := remove_ok (((xs (nI i + 1).toNatClampNeg).toInt64 <<< ((32 : Int32).toInt64 &&& 63)) ||| ((xs (nI i + 2).toNatClampNeg).toInt64 &&& 4294967295)) lh mv wk wv hR
      refine p2 _ (p3 _ ?_)
      exact ⟨fun _ => goon K2 V2 B t2 lh2 mv2 F2 J2 G2 wk2 wv2 p1, fun c => absurd rfl c⟩
    · refine ⟨i1, i2, i3, ?_⟩
      obtain ⟨r, K2, V2, t2, lh2, mv2, F2, J2, G2, wk2, wv2, p1, p2, p3⟩ := drop_ok (((xs (nI i + 1).toNatClampNeg).toInt64 <<< ((32 : Int32).toInt64 &&& 63)) ||| ((xs (nI i + 2).toNatClampNeg).toInt64 &&& 4294967295)) (xs (nI i + 3).toNatClampNeg) lh mv wk wv hR
      refine p2 _ (p3 _ ?_)
      exact ⟨fun _ => goon K2 V2 B t2 lh2 mv2 F2 J2 G2 wk2 wv2 p1, fun c => absurd rfl c⟩
    · refine ⟨i1, i2, ?_⟩
      refine p_S_has r3 hs hout (fun c => ?_) (fun c => ?_)
      · exact p_M_has hRm (by omega) (fun _ => ⟨fun _ => stay, fun c => absurd rfl c⟩) (fun d => by obtain ⟨j, a1, a2, a3⟩ := c; exact absurd a3 (d j a1 a2))
      · exact p_M_has hRm (by omega) (fun d => by obtain ⟨j, a1, a2, a3⟩ := d; exact absurd a3 (c j a1 a2)) (fun _ => ⟨fun _ => stay, fun c => absurd rfl c⟩)
    · refine ⟨i1, i2, ?_⟩
      refine p_S_get r3 hs hout (fun j a1 a2 a3 => ?_) (fun c => ?_)
      · refine p_M_get hRm hV (by omega) (fun j2 b1 b2 b3 => ?_) (fun d => absurd a3 (d j a1 a2))
        obtain rfl := Rl_uniq hR a1 b1 a2 b2 (a3.trans b3.symm)
        exact ⟨fun _ => stay, fun c => absurd rfl c⟩
      · exact p_M_get hRm hV (by omega) (fun j2 b1 b2 b3 => absurd b3 (c j2 b1 b2)) (fun _ => ⟨fun _ => stay, fun c => absurd rfl c⟩)
    · refine ⟨i1, i2, ?_⟩
      exact p_S_floor r3 (p_M_floor hRm (by omega) ⟨fun _ => stay, fun c => absurd rfl c⟩)
    · refine ⟨i1, i2, ?_⟩
      refine p_S_ceiling r3 hs hout (fun j hj => ?_) (fun c => ?_)
      · refine p_M_ceiling hRm (by omega) (fun j2 hj2 => ?_) (fun d => absurd (d j hj.1 hj.2.1) (l_nlt.mpr hj.2.2.1))
        obtain rfl : j2 = j := by
          rcases Nat.lt_trichotomy j2 j with y | y | y
          · exact absurd (hj.2.2.2 j2 y hj2.2.1) (l_nlt.mpr hj2.2.2.1)
          · exact y
          · exact absurd (hj2.2.2.2 j y hj.2.1) (l_nlt.mpr hj.2.2.1)
        exact ⟨fun _ => stay, fun c => absurd rfl c⟩
      · exact p_M_ceiling hRm (by omega) (fun j hj => absurd (c j hj.1 hj.2.1) (l_nlt.mpr hj.2.2.1)) (fun _ => ⟨fun _ => stay, fun c => absurd rfl c⟩)
    · refine ⟨i1, ?_⟩
      exact p_S_select r3 (p_M_select hRm (by omega) ⟨fun _ => stay, fun c => absurd rfl c⟩)
    · refine ⟨i1, i2, i3, i4, ?_⟩
      exact p_S_count r3 (p_M_count hRm (by omega) ⟨fun _ => stay, fun c => absurd rfl c⟩)
    · refine ⟨i1, i2, i3, i4, ?_⟩
      exact p_S_sum r3 (p_M_sum hRm hV (by omega) ⟨fun _ => stay, fun c => absurd rfl c⟩)
    · exact p_S_size r3 (p_M_size hRm (by omega) ⟨fun _ => stay, fun c => absurd rfl c⟩)
    · refine p_S_cells r3 ?_
      unfold wp_M_cells
      exact ⟨fun _ => stay, fun c => absurd rfl c⟩
    · refine ⟨i1, ?_⟩
      obtain ⟨r, q1, q2⟩ := p_cellKey (a := (xs (nI i + 1).toNatClampNeg)) hRm r3
      exact q1 _ (q2 _ ⟨fun _ => stay, fun c => absurd rfl c⟩)
    · refine ⟨i1, ?_⟩
      obtain ⟨r, q1, q2⟩ := p_place (a := (xs (nI i + 1).toNatClampNeg)) r3
      exact q1 _ (q2 _ ⟨fun _ => stay, fun c => absurd rfl c⟩)
    · refine ⟨i1, ?_⟩
      obtain ⟨r, q1, q2⟩ := p_borne (a := (xs (nI i + 1).toNatClampNeg)) hRm r3 (by omega)
      exact q1 _ (q2 _ ⟨fun _ => stay, fun c => absurd rfl c⟩)
    · refine ⟨i1, i2, i3, ?_⟩
      refine touched_ok (b := (xs (nI i + 3).toNatClampNeg)) hRm r3 (by omega) (fun r B2 => ?_)
      exact ⟨fun _ => goon K V B2 t lh mv F J G wk wv hR, fun c => absurd rfl c⟩
    · unfold wp_S_window wp_M_window
      exact ⟨fun _ => stay, fun c => absurd rfl c⟩
    · unfold wp_S_moved wp_M_moved
      exact ⟨fun _ => stay, fun c => absurd rfl c⟩
