theorem gL_law_L_cell : GoodIn TB (va_wsS RL 9 yL_cell wsL_cell) := gLess (gS (c1 := .code yL_cell cL_cell 2 (some .int)) tml_L_9 tst_yL_cell tin_L tco_yL_cell) tco_yL_cell
theorem gL_law_X0_init : GoodIn TB wsX0_init := gT tco_yX0_init (fun _ h => h)
theorem gL_law_X1_init : GoodIn TB wsX1_init := gT tco_yX1_init (fun _ h => h)
/-- where both begin -/
theorem start_ok {K : Nat → Int64} (hK : ∀ j, j < 512 → K j = NOK) {l0 : Nat} (h1 : 1 ≤ l0) (h6 : l0 ≤ 6) : Rl K (fun _ => 0) l0 l0 (fun _ => 0) (fun _ => 0) (fun _ => 0) :=
  ⟨h1, Nat.le_refl _, h6, fun i j hij hj fi _ => absurd (hK i (by omega)) fi, fun i _ hi => hK i hi, fun i hi => ⟨⟨fun _ => hK i hi, fun _ => rfl⟩, fun f => absurd (hK i hi) f⟩, fun i hi f => absurd (hK i hi) f⟩
theorem x_blind {av : List Value} {b L sz : Nat} {xs : Nat → Int32} : FrameBlind (va_Pc av (fun U => U.heap.size = sz ∧ va_X b L xs U U.heap ∧ b < sz)) := fun a U g mk q => by
  obtain ⟨q0, q1, q2, q3⟩ := q
  exact ⟨q0, q1, va_X.moved (u := U) (U := U.calling g mk a) (Vm.Alike.refl U.vm) q2, q3⟩
set_option maxHeartbeats 8000000 in
set_option maxRecDepth 100000 in
/-- the law, from its entry -/
theorem whole_start {p : Program} {e : Env} {s : State} {m : MethodId} {below : List Frame} {meth : Method} {c : Code} (l : Launch) {b L : Nat} {xs : Nat → Int32} (hL : L ≤ 3073) (C0 : lw_At p s m meth c b L xs) : W p l e room_1 s m #[Value.ref b] below meth c s.heap [] 0 0 (lw_Z below #[Value.ref b] s) (entryFrame m ([Value.ref b] : List Value).toArray 4) := by
  obtain ⟨hx, hb, hr, hml, hown, hts, hX, hbl, hlocks, hgv⟩ := id C0
  replace hown : s.vm.findClass RL = some m.cls := hown
  replace hts : ∀ w ∈ TB, w.before #[Value.ref b] s = true := fun w h => hts w (tb_in h)
  have hA : ∀ q : Nat, s.heap.size ≤ q → (fun q : Nat => s.heap.size ≤ q) q := fun _ h => h
  have hbA : ¬ (fun q : Nat => s.heap.size ≤ q) b := Nat.not_le.mpr hbl
  obtain ⟨c0, iS0, hKn0⟩ := u_known (C := RX0) (T := TX0) (N := 7) (n := 7) hts iX0 (hts _ tis_X0)
  obtain ⟨c1, iS1, hKn1⟩ := u_known (C := RX1) (T := TX1) (N := 10) (n := 10) hts iX1 (hts _ tis_X1)
  obtain ⟨dC, dI, hKc⟩ : ∃ (dC : Nat → ClassId) (dI : Nat → Nat → Nat), ∀ (k : Nat) (q : vw_C), vwCl[k]? = some q → u_Kn s q.1 q.2.1 q.2.2 (dC k) (dI k) := by
    refine ⟨fun k => if k = 0 then c0 else c1, fun k => if k = 0 then iS0 else iS1, ?_⟩
    intro k q hq
    match k, hq with
    | 0, hq => cases hq; exact hKn0
    | 1, hq => cases hq; exact hKn1
    | k + 2, hq => simp [vwCl] at hq
  have hS : va_S (fun q : Nat => s.heap.size ≤ q) s.heap s.heap [] := va_S.rf
  have hK : va_K (dC, dI) vwCl [] s := ⟨hKc, fun k q h => by simp at h⟩
  have hP : va_P (dC, dI) vwCl [] s.heap := fun k q h => by simp at h
  have hD : va_D (fun q : Nat => s.heap.size ≤ q) [] := ⟨fun i j p q h => by simp at h, fun k q h => by simp at h⟩
  have hl := lv_entry ([.ref b]) (n := 4) (Nat.le_of_ble_eq_true rfl)
  rw [lg_entry_eq]
  generalize (lg_sl ([.ref b]) ++ List.replicate (4 - (lg_sl ([.ref b])).length) Slot.unset).toArray = ls at hl ⊢
  replace hl : lv_has ls 4 [(0, .ref b)] := hl
  -- the store
  refine va_new (ci := 0) (fs := [.null, .null, .null, .int 0, .int 0, .int 0, .long 0]) (C := RX0) (T := TX0) (N := 7) hx hb hts iX0 tyX0 tyX0_ok hown (hts _ tcl_L_7) (hts _ tis_X0) (hts _ tin_X0) hK hP hD hS hA rfl (fun j hj => by rcases (show j = 0 ∨ j = 1 ∨ j = 2 ∨ j = 3 ∨ j = 4 ∨ j = 5 ∨ j = 6 by omega) with rfl | rfl | rfl | rfl | rfl | rfl | rfl <;> rfl) (Nat.le_of_ble_eq_true rfl) (Nat.le_of_ble_eq_true rfl) dL_law_0 (fun x0 H hP hD hS => ?_)
  replace hP : va_P (dC, dI) vwCl [(x0, .inr (0, [.null, .null, .null, .int 0, .int 0, .int 0, .long 0]))] H := hP
  replace hD : va_D (fun q : Nat => s.heap.size ≤ q) [(x0, .inr (0, [.null, .null, .null, .int 0, .int 0, .int 0, .long 0]))] := hD
  refine W.widen (k := 1) (n := 7) (by decide) (by decide) ?_
  refine lv_dup hx hb dL_law_3 rfl ?_
  refine lv_aload_n hx hb dL_law_4 rfl (lv_at hl 0 rfl) ?_
  refine lv_iconst (v := 0) hx hb dL_law_5 (by decide) ?_
  have hXH : va_X b L xs s H := va_X.kept hX (hS.2.1 b hbl hbA)
  refine va_calli (va_runS (As := [.ref b, .int 0]) (rest := [.ref x0, .ref x0]) ⟨hx, hb, hml, hown, hts⟩ (c_L_cell l b L xs H.size hL) (va_cwS 2 hts gL_law_L_cell rfl rfl rfl (by decide +kernel) ⟨Nat.le_of_ble_eq_true rfl, Nat.le_of_ble_eq_true rfl⟩) ⟨x_blind, fun U hU hW => ⟨rfl, by rw [hU], by rw [hU]; exact va_X.moved hW.alike hXH, Nat.lt_of_lt_of_le hbl hS.1⟩⟩ rfl rfl hl.1 rfl (lv_room (Nat.le_of_ble_eq_true rfl)) dL_law_6 ⟨Nat.le_of_ble_eq_true rfl, Nat.le_of_ble_eq_true rfl⟩) hS (fun q _ h => Nat.le_trans hS.1 h) (fun q h => Nat.le_trans hS.1 h) (fun r1 u1 t1 H1 locs1 ht1 hvm1 hw1 hB1 hz1 hk1 hS1 => ?_)
  replace hP : va_P (dC, dI) vwCl [(x0, .inr (0, [.null, .null, .null, .int 0, .int 0, .int 0, .long 0]))] H1 := hP.kept (fun k q hk => hk1 _ (hP k q hk).lt (fun z => absurd (hP k q hk).lt (Nat.not_lt.mpr z)))
  clear hS hk1 hXH
  have hFc := va_free (wc := [(x0, .inr (0, [.null, .null, .null, .int 0, .int 0, .int 0, .long 0]))]) hD hS1 hA [0] rfl
  refine va_callv (va_runI (As := [.int r1]) (rest := [.ref x0]) ⟨hx, hb, hml, hown, hts⟩ (c_S_init l (dC, dI) x0 r1 H1.size) (cwI 1 hts gL_law_X0_init rfl rfl rfl (hts _ tin_X0) (hts _ tml_L_15) (hts _ tim_yX0_init) rfl (by decide +kernel) ⟨Nat.le_of_ble_eq_true rfl, Nat.le_of_ble_eq_true rfl⟩) ⟨q_blind, q_pre hP hK hD⟩ rfl rfl hl.1 rfl (lv_room (Nat.le_of_ble_eq_true rfl)) dL_law_9 ⟨Nat.le_of_ble_eq_true rfl, Nat.le_of_ble_eq_true rfl⟩) hS1 (fun q _ h => hFc q h) hFc (fun u t H2 locs2 ht hvm hw hB hz2 hk2 hS2 => ?_)
  obtain ⟨g, q, kk, ll⟩ := u
  obtain ⟨hP2, hK2, hD2⟩ := hB
  rw [ht] at hP2
  replace hK2 := va_K.moved hvm.symm hK2
  obtain ⟨hg0, hkk, hll⟩ := hw
  dsimp only at hg0 hkk hll hP2 hK2 hD2
  obtain ⟨hP, hD⟩ := va_join (wr := []) hP hD [0] [] rfl rfl (by decide) (by decide) hk2 hFc hP2 hD2
  replace hP : va_P (dC, dI) vwCl (wS g q kk (fun _ => 0) (fun _ => 0) ll ll (-1) 0) H2 := hP
  replace hD : va_D (fun q : Nat => s.heap.size ≤ q) (wS g q kk (fun _ => 0) (fun _ => 0) ll ll (-1) 0) := hD
  clear hS1 hFc hk2 hP2 hD2
  refine W.widen (k := 4) (n := 1045) (by decide) (by decide) ?_
  rw [← hg0]
  refine lv_astore_n (lv' := [(1, .ref (g 0)), (0, .ref b)]) hx hb dL_law_12 rfl hl (by decide) rfl (fun ls hl => ?_)
  -- the reference
  refine va_new (ci := 1) (fs := [.int 0, .int 0, .null, .null, .null, .int 0, .long 0, .int 0, .null, .null]) (C := RX1) (T := TX1) (N := 10) hx hb hts iX1 tyX1 tyX1_ok hown (hts _ tcl_L_18) (hts _ tis_X1) (hts _ tin_X1) hK hP hD hS2 hA rfl (fun j hj => by rcases (show j = 0 ∨ j = 1 ∨ j = 2 ∨ j = 3 ∨ j = 4 ∨ j = 5 ∨ j = 6 ∨ j = 7 ∨ j = 8 ∨ j = 9 by omega) with rfl | rfl | rfl | rfl | rfl | rfl | rfl | rfl | rfl | rfl <;> rfl) (Nat.le_of_ble_eq_true rfl) (Nat.le_of_ble_eq_true rfl) dL_law_13 (fun m0 H hP hD hS => ?_)
  replace hP : va_P (dC, dI) vwCl (wS g q kk (fun _ => 0) (fun _ => 0) ll ll (-1) 0 ++ [(m0, .inr (1, [.int 0, .int 0, .null, .null, .null, .int 0, .long 0, .int 0, .null, .null]))]) H := hP
  replace hD : va_D (fun q : Nat => s.heap.size ≤ q) (wS g q kk (fun _ => 0) (fun _ => 0) ll ll (-1) 0 ++ [(m0, .inr (1, [.int 0, .int 0, .null, .null, .null, .int 0, .long 0, .int 0, .null, .null]))]) := hD
  clear hS2
  refine W.widen (k := 5) (n := 1055) (by decide) (by decide) ?_
  refine lv_dup hx hb dL_law_16 rfl ?_
  refine lv_aload_n hx hb dL_law_17 rfl (lv_at hl 1 rfl) ?_
  refine lv_iconst (v := 0) hx hb dL_law_18 (by decide) ?_
  have hXH : va_X b L xs s H := va_X.kept hX (hS.2.1 b hbl hbA)
  refine va_calli (va_runS (As := [.ref b, .int 0]) (rest := [.ref m0, .ref m0]) ⟨hx, hb, hml, hown, hts⟩ (c_L_cell l b L xs H.size hL) (va_cwS 2 hts gL_law_L_cell rfl rfl rfl (by decide +kernel) ⟨Nat.le_of_ble_eq_true rfl, Nat.le_of_ble_eq_true rfl⟩) ⟨x_blind, fun U hU hW => ⟨rfl, by rw [hU], by rw [hU]; exact va_X.moved hW.alike hXH, Nat.lt_of_lt_of_le hbl hS.1⟩⟩ rfl rfl hl.1 rfl (lv_room (Nat.le_of_ble_eq_true rfl)) dL_law_19 ⟨Nat.le_of_ble_eq_true rfl, Nat.le_of_ble_eq_true rfl⟩) hS (fun q _ h => Nat.le_trans hS.1 h) (fun q h => Nat.le_trans hS.1 h) (fun r2 u2 t2 H1 locs1 ht2 hvm2 hw2 hB2 hz2 hk1 hS1 => ?_)
  replace hP : va_P (dC, dI) vwCl (wS g q kk (fun _ => 0) (fun _ => 0) ll ll (-1) 0 ++ [(m0, .inr (1, [.int 0, .int 0, .null, .null, .null, .int 0, .long 0, .int 0, .null, .null]))]) H1 := hP.kept (fun k q hk => hk1 _ (hP k q hk).lt (fun z => absurd (hP k q hk).lt (Nat.not_lt.mpr z)))
  clear hS hk1 hXH
  have hFc := va_free (wc := [(m0, .inr (1, [.int 0, .int 0, .null, .null, .null, .int 0, .long 0, .int 0, .null, .null]))]) hD hS1 hA [4] rfl
  refine va_callv (va_runI (As := [.int r2]) (rest := [.ref m0]) ⟨hx, hb, hml, hown, hts⟩ (c_M_init l (dC, dI) m0 r2 H1.size) (cwI 1 hts gL_law_X1_init rfl rfl rfl (hts _ tin_X1) (hts _ tml_L_20) (hts _ tim_yX1_init) rfl (by decide +kernel) ⟨Nat.le_of_ble_eq_true rfl, Nat.le_of_ble_eq_true rfl⟩) ⟨q_blind, q_pre (hP.sub [4] rfl) hK (hD.sub [4] (by decide) rfl)⟩ rfl rfl hl.1 rfl (lv_room (Nat.le_of_ble_eq_true rfl)) dL_law_22 ⟨Nat.le_of_ble_eq_true rfl, Nat.le_of_ble_eq_true rfl⟩) hS1 (fun q _ h => hFc q h) hFc (fun u t H2 locs2 ht hvm hw hB hz2 hk2 hS2 => ?_)
  obtain ⟨h, z, le⟩ := u
  obtain ⟨hP2, hK3, hD2⟩ := hB
  rw [ht] at hP2
  replace hK3 := va_K.moved hvm.symm hK3
  obtain ⟨hh0, hle⟩ := hw
  dsimp only at hh0 hle hP2 hK3 hD2
  obtain ⟨hP, hD⟩ := va_join (wr := wS g q kk (fun _ => 0) (fun _ => 0) ll ll (-1) 0) hP hD [4] [0, 1, 2, 3] rfl rfl (by decide) (by decide) hk2 hFc hP2 hD2
  replace hP : va_P (dC, dI) vwCl (wL g q h z kk (fun _ => 0) (fun _ => 0) ll ll (-1) 0 le le (fun _ => 0) (fun _ => 0) (fun _ => 0) (-1) 0 0 (fun _ => 0) (fun _ => 0)) H2 := hP
  replace hD : va_D (fun q : Nat => s.heap.size ≤ q) (wL g q h z kk (fun _ => 0) (fun _ => 0) ll ll (-1) 0 le le (fun _ => 0) (fun _ => 0) (fun _ => 0) (-1) 0 0 (fun _ => 0) (fun _ => 0)) := hD
  clear hS1 hFc hk2 hP2 hD2
  refine W.widen (k := 10) (n := 3617) (by decide) (by decide) ?_
  rw [← hh0]
  refine lv_astore_n (lv' := [(2, .ref (h 0)), (1, .ref (g 0)), (0, .ref b)]) hx hb dL_law_25 rfl hl (by decide) rfl (fun ls hl => ?_)
  refine lv_iconst (v := 1) hx hb dL_law_26 (by decide) ?_
  refine lv_istore_n (lv' := [(3, .int 1), (2, .ref (h 0)), (1, .ref (g 0)), (0, .ref b)]) hx hb dL_law_27 rfl hl (by decide) rfl (fun ls hl => ?_)
  have hKL : va_K (dC, dI) vwCl (tL q z) s := hK2.app hK3
  have er : r2 = r1 := hw2.trans hw1.symm
  obtain ⟨l0, l1, l6, el, em⟩ : ∃ l0 : Nat, 1 ≤ l0 ∧ l0 ≤ 6 ∧ ll = nI l0 ∧ le = nI (8 * 2 ^ l0) := by
    rw [er] at hle
    rcases hll with ⟨a1, a2⟩ | ⟨a0, a1, a2⟩ | ⟨a0, a1, a2⟩
    · refine ⟨3, by decide, by decide, a2, ?_⟩
      rcases hle with ⟨b1, b2⟩ | ⟨b1, b2⟩ | ⟨b1, b2, b3⟩
      · exact b2
      · rw [a1] at b1; exact absurd b1 (by decide)
      · exact absurd a1 b1
    · refine ⟨2, by decide, by decide, a2, ?_⟩
      rcases hle with ⟨b1, b2⟩ | ⟨b1, b2⟩ | ⟨b1, b2, b3⟩
      · exact absurd b1 a0
      · exact b2
      · exact absurd a1 b2
    · refine ⟨1, by decide, by decide, a2, ?_⟩
      rcases hle with ⟨b1, b2⟩ | ⟨b1, b2⟩ | ⟨b1, b2, b3⟩
      · exact absurd b1 a0
      · exact absurd b1 a1
      · exact b3
  subst el em
  exact law_loop g q h z _ _ C0 hKL _ 1 kk (fun _ => 0) (fun _ => 0) (nI l0) (-1) 0 (nI (8 * 2 ^ l0)) (fun _ => 0) (fun _ => 0) (fun _ => 0) (-1) 0 0 (fun _ => 0) (fun _ => 0) (law_ok hL 3073 1 kk (fun _ => 0) (fun _ => 0) l0 (-1) 0 (fun _ => 0) (fun _ => 0) (fun _ => 0) (fun _ => 0) (fun _ => 0) (by omega) (by omega) (start_ok hkk l1 l6)) _ _ ls hP hD hS2 (lv_sub hl [3, 2, 1, 0] rfl)
