set_option maxHeartbeats 4000000 in
set_option maxRecDepth 100000 in
theorem c_J_fill (l : Launch) (D : va_G) (a : Nat) (cA : ClassId) (f : Nat → Int64) (v : Int64) (sz : Nat) : Met l yJ7_fill_d0a16 wsJ7_fill_d0a16 ({ frames := 0, cells := 0, slots := 0, locals := 0 }) (qP D vwCl [(cA, .long)] [(a, .inl (cA, 512, .inr (.inl f)))] sz [.ref a, .long v]) (va_Qv (fun u : Nat → Int64 => ∀ j, j < 512 → u j = v) (qB D vwCl [(cA, .long)] (fun u : Nat → Int64 => [(a, .inl (cA, 512, .inr (.inl u)))]) (va_A [(a, .inl (cA, 512, .inr (.inl f)))] sz)) (va_A [(a, .inl (cA, 512, .inr (.inl f)))] sz)) 0 0 (va_A [(a, .inl (cA, 512, .inr (.inl f)))] sz) := by
  refine q_enter (cc := cJ7_fill_d0a16) (maxL := 5) (ret := none) (fun A => va_Qv (fun u : Nat → Int64 => ∀ j, j < 512 → u j = v) (qB D vwCl [(cA, .long)] (fun u : Nat → Int64 => [(a, .inl (cA, 512, .inr (.inl u)))]) A) A) (by decide +kernel) rfl (Nat.le_of_ble_eq_true rfl) ?_
  intro p e s m below meth c A ls hx hb hr hml hown hts hlocks hname hP hK hD hA hl
  replace hl : lv_has ls 5 [(0, .ref a), (1, .long v)] := hl
  have hS : va_S A s.heap s.heap [] := va_S.rf
  have L6 : ∀ (k i : Nat) (f : Nat → Int64), i + k = 512 → (∀ j, j < i → f j = v) → ∀ (H : Heap) (locs : List Loc) (ls : Array Slot), va_P D vwCl [(a, .inl (cA, 512, .inr (.inl f)))] H → va_D A [(a, .inl (cA, 512, .inr (.inl f)))] → va_S A s.heap H locs → lv_has ls 5 [(0, .ref a), (1, .long v), (3, .int (nI i)), (4, .int 512)] → W p l e { frames := 0, cells := 0, slots := 0, locals := 0 } s m ([.ref a, .long v] : List Value).toArray below meth c H locs 0 0 (MQ below (va_Qv (fun u : Nat → Int64 => ∀ j, j < 512 → u j = v) (qB D vwCl [(cA, .long)] (fun u : Nat → Int64 => [(a, .inl (cA, 512, .inr (.inl u)))]) A) A) ([.ref a, .long v] : List Value).toArray s 0 0 A) (F0 m 6 ls []) := by
    intro k
    induction k with
    | zero =>
      intro i f e hf H locs ls hP hD hS hl
      obtain rfl : i = 512 := by omega
      refine lv_iload_n hx hb dJ7_fill_d0a16_6 rfl (lv_at hl 2 rfl) ?_
      refine lv_iload hx hb dJ7_fill_d0a16_7 (lv_at hl 3 rfl) ?_
      refine lv_icmp_ge (tgt := 22) hx hb dJ7_fill_d0a16_9 (by decide) (fun c1 => ?_) (fun c1 => ?_)
      · exact q_vret f hx hb hr hlocks hK dJ7_fill_d0a16_22 hS hP hD hf
      · exact absurd (by decide) c1
    | succ k ih =>
      intro i f e hf H locs ls hP hD hS hl
      refine lv_iload_n hx hb dJ7_fill_d0a16_6 rfl (lv_at hl 2 rfl) ?_
      refine lv_iload hx hb dJ7_fill_d0a16_7 (lv_at hl 3 rfl) ?_
      refine lv_icmp_ge (tgt := 22) hx hb dJ7_fill_d0a16_9 (by decide) (fun c1 => ?_) (fun c1 => ?_)
      · exact absurd c1 (nI_ge (b := 512) (by omega) (by decide))
      · refine lv_aload_n hx hb dJ7_fill_d0a16_12 rfl (lv_at hl 0 rfl) ?_
        refine lv_iload_n hx hb dJ7_fill_d0a16_13 rfl (lv_at hl 2 rfl) ?_
        refine lv_lload_n hx hb dJ7_fill_d0a16_14 rfl (lv_at hl 1 rfl) ?_
        refine va_last hx hb hK hP hD hS 0 0 rfl rfl (vp_in_nI (by omega) (by decide)) dJ7_fill_d0a16_15 (fun H locs hP hD hS => ?_)
        rw [nI_clamp (by omega)] at hP hD
        refine lv_iinc (v := nI (i + 1)) (lv' := [(3, .int (nI (i + 1))), (0, .ref a), (1, .long v), (4, .int 512)]) hx hb dJ7_fill_d0a16_16 hl (k := 2) rfl (nI_1 i) (by decide) rfl (fun ls hl => ?_)
        refine lv_goto (tgt := 6) hx hb dJ7_fill_d0a16_19 (by decide) ?_
        refine ih (i + 1) (vp_updL f i v) (by omega) (fun j hj => ?_) _ _ ls hP hD hS (lv_sub hl [1, 2, 0, 3] rfl)
        rcases Nat.lt_or_ge j i with q | q
        · rw [pk_uLn (by omega)]; exact hf j q
        · obtain rfl : j = i := by omega
          exact pk_uLs
  refine lv_iconst (v := 0) hx hb dJ7_fill_d0a16_0 (by decide) ?_
  refine lv_istore_n (lv' := [(3, .int 0), (0, .ref a), (1, .long v)]) hx hb dJ7_fill_d0a16_1 rfl hl (by decide) rfl (fun ls hl => ?_)
  refine lv_aload_n hx hb dJ7_fill_d0a16_2 rfl (lv_at hl 1 rfl) ?_
  refine va_alen (v := 512) hx hb hK hP 0 0 rfl rfl rfl dJ7_fill_d0a16_3 ?_
  refine lv_istore (lv' := [(4, .int 512), (3, .int 0), (0, .ref a), (1, .long v)]) hx hb dJ7_fill_d0a16_4 hl (by decide) rfl (fun ls hl => ?_)
  exact L6 512 0 f (by omega) (fun j hj => absurd hj (by omega)) _ _ ls hP hD hS (lv_sub hl [2, 3, 1, 0] rfl)
set_option maxHeartbeats 4000000 in
set_option maxRecDepth 100000 in
theorem c_L_cell (l : Launch) (b L : Nat) (xs : Nat → Int32) (sz : Nat) (hL : L ≤ 3073) : Met l yL_cell wsL_cell ({ frames := 0, cells := 0, slots := 0, locals := 0 }) (va_Pc [.ref b, .int 0] (fun U => U.heap.size = sz ∧ va_X b L xs U U.heap ∧ b < sz)) (va_Qi (fun (r : Int32) (_ : Unit) => r = if L = 0 then 0 else xs 0) (fun _ _ => True) (fun q => sz ≤ q)) 0 0 (fun q => sz ≤ q) := by
  refine Met.ofW (cc := cL_cell) (maxL := 2) (ret := (some .int)) (by decide) rfl ?_
  intro p e s m args below meth c s₁ B hml hv
  obtain ⟨rfl, hsz, hX, hbl⟩ := hv
  have hx := B.exec
  have hb := B.bytes
  have hr := B.returns
  have hlocks := B.notSynchronized
  subst hsz
  have hbA : ¬ (fun q : Nat => s.heap.size ≤ q) b := Nat.not_le.mpr hbl
  have hS : va_S (fun q : Nat => s.heap.size ≤ q) s.heap s.heap [] := va_S.rf
  have hl := lv_entry ([.ref b, .int 0]) (n := 2) (Nat.le_of_ble_eq_true rfl)
  rw [lg_entry_eq]
  generalize (lg_sl ([.ref b, .int 0]) ++ List.replicate (2 - (lg_sl ([.ref b, .int 0])).length) Slot.unset).toArray = ls at hl ⊢
  replace hl : lv_has ls 2 [(0, .ref b), (1, .int 0)] := hl
  refine lv_iload_n hx hb dL_cell_0 rfl (lv_at hl 1 rfl) ?_
  refine lv_aload_n hx hb dL_cell_1 rfl (lv_at hl 0 rfl) ?_
  refine va_slen hx hb hX hbl hbA hS dL_cell_2 ?_
  refine lv_icmp_ge (tgt := 12) hx hb dL_cell_3 (by decide) (fun c1 => ?_) (fun c1 => ?_)
  · refine lv_iconst (v := 0) hx hb dL_cell_12 (by decide) ?_
    have h0 : L = 0 := by
      rcases Nat.eq_zero_or_pos L with q | q
      · exact q
      · exact absurd c1 (nI_nle q (by omega))
    exact W.iret hx hb hr (fun t ht hW => ⟨⟨0, (), rfl, by rw [if_pos h0], trivial⟩, hS.F ht⟩) hS.2.2 dL_cell_13
  · have h0 : 0 < L := by
      rcases Nat.eq_zero_or_pos L with q | q
      · subst q; exact absurd (by decide) c1
      · exact q
    refine lv_aload_n hx hb dL_cell_6 rfl (lv_at hl 0 rfl) ?_
    refine lv_iload_n hx hb dL_cell_7 rfl (lv_at hl 1 rfl) ?_
    refine va_sld hx hb hX hbl hbA hS (vp_in_nI (n := 0) h0 (by omega)) dL_cell_8 ?_
    refine lv_goto (tgt := 13) hx hb dL_cell_9 (by decide) ?_
    exact W.iret hx hb hr (fun t ht hW => ⟨⟨_, (), rfl, by rw [if_neg (by omega), sb_cl0], trivial⟩, hS.F ht⟩) hS.2.2 dL_cell_13
set_option maxHeartbeats 4000000 in
set_option maxRecDepth 100000 in
theorem c_S_init (l : Launch) (D : va_G) (h0 : Nat) (a1 : Int32) (sz : Nat) : Met l yX0_init wsX0_init ({ frames := 1, cells := 3, slots := 1038, locals := 32 }) (qP D vwCl [] [(h0, .inr (0, [.null, .null, .null, .int 0, .int 0, .int 0, .long 0]))] sz [.ref h0, .int a1]) (va_Qv (fun u : (Nat → Nat) × (Nat → ClassId) × (Nat → Int64) × Int32 => u.1 0 = h0 ∧ (∀ j, j < 512 → u.2.2.1 j = NOK) ∧ ((a1 = 64 ∧ u.2.2.2 = 3) ∨ (¬ a1 = 64 ∧ a1 = 32 ∧ u.2.2.2 = 2) ∨ (¬ a1 = 64 ∧ ¬ a1 = 32 ∧ u.2.2.2 = 1))) (fun u t => va_P D vwCl (wS u.1 u.2.1 u.2.2.1 (fun _ => 0) (fun _ => 0) u.2.2.2 u.2.2.2 (-1) 0) t.heap ∧ va_K D vwCl (tS u.2.1) t ∧ va_D (va_A [(h0, .inr (0, [.null, .null, .null, .int 0, .int 0, .int 0, .long 0]))] sz) (wS u.1 u.2.1 u.2.2.1 (fun _ => 0) (fun _ => 0) u.2.2.2 u.2.2.2 (-1) 0)) (va_A [(h0, .inr (0, [.null, .null, .null, .int 0, .int 0, .int 0, .long 0]))] sz)) 3 1038 (va_A [(h0, .inr (0, [.null, .null, .null, .int 0, .int 0, .int 0, .long 0]))] sz) := by
  refine q_enter (cc := cX0_init) (maxL := 2) (ret := none) (fun A => va_Qv (fun u : (Nat → Nat) × (Nat → ClassId) × (Nat → Int64) × Int32 => u.1 0 = h0 ∧ (∀ j, j < 512 → u.2.2.1 j = NOK) ∧ ((a1 = 64 ∧ u.2.2.2 = 3) ∨ (¬ a1 = 64 ∧ a1 = 32 ∧ u.2.2.2 = 2) ∨ (¬ a1 = 64 ∧ ¬ a1 = 32 ∧ u.2.2.2 = 1))) (fun u t => va_P D vwCl (wS u.1 u.2.1 u.2.2.1 (fun _ => 0) (fun _ => 0) u.2.2.2 u.2.2.2 (-1) 0) t.heap ∧ va_K D vwCl (tS u.2.1) t ∧ va_D A (wS u.1 u.2.1 u.2.2.1 (fun _ => 0) (fun _ => 0) u.2.2.2 u.2.2.2 (-1) 0)) A) (by decide +kernel) rfl (Nat.le_of_ble_eq_true rfl) ?_
  intro p e s m below meth c A ls hx hb hr hml hown hts hlocks hname hP hK hD hA hl
  replace hown : s.vm.findClass RX0 = some m.cls := hown
  replace hl : lv_has ls 2 [(0, .ref h0), (1, .int a1)] := hl
  have hS : va_S A s.heap s.heap [] := va_S.rf
  refine lv_aload_n hx hb dX0_init_0 rfl (lv_at hl 0 rfl) ?_
  refine W.objInit hx hb hown (hts _ (List.mem_cons_of_mem _ tml_X0_3)) (hts _ (List.mem_cons_of_mem _ tim_objectInit)) (hts _ (List.mem_cons_of_mem _ tco_objectInit)) rfl (by rw [hml]; exact hl.1) rfl dX0_init_1 (Nat.le_of_ble_eq_true rfl) (Nat.le_of_ble_eq_true rfl) ?_
  refine W.eq (g2 := F0 m 4 ls []) rfl ?_
  refine lv_aload_n hx hb dX0_init_4 rfl (lv_at hl 0 rfl) ?_
  refine lv_sipush (v := 512) hx hb dX0_init_5 (by decide) ?_
  refine va_newa (atype := .long) hx hb (hts _ (List.mem_cons_of_mem _ tar_long)) rfl hK hP hD hS hA (a0 := (512, .inr (.inl (fun _ => 0)))) (N' := 512) (fun _ => rfl) (by decide) (by decide) (by decide) (Nat.le_of_ble_eq_true rfl) (Nat.le_of_ble_eq_true rfl) dX0_init_8 (fun a1_ c1_ H hK hP hD hS => ?_)
  replace hK : va_K D vwCl [(c1_, .long)] s := hK
  replace hP : va_P D vwCl [(h0, .inr (0, [.null, .null, .null, .int 0, .int 0, .int 0, .long 0])), (a1_, .inl (c1_, (512, .inr (.inl (fun _ => 0)))))] H := hP
  replace hD : va_D A [(h0, .inr (0, [.null, .null, .null, .int 0, .int 0, .int 0, .long 0])), (a1_, .inl (c1_, (512, .inr (.inl (fun _ => 0)))))] := hD
  refine W.widen (k := 1) (n := 512) (by decide) (by decide) ?_
  refine va_putF (D := D) (ci := 0) (v := .ref a1_) (ty := .array .long) (C := RX0) (T := TX0) (N := 7) hx hb hts (fun w h => List.mem_cons_of_mem _ (iX0 w h)) tyX0 tyX0_ok nmX0 hown hK hP hD hS 0 rfl rfl 0 (by decide) (hts _ (List.mem_cons_of_mem _ tfl_X0_9)) (fun _ h9 => h9) rfl hname rfl (by decide +kernel) rfl rfl (Nat.le_of_ble_eq_true rfl) dX0_init_10 (fun H locs hP hD hS => ?_)
  replace hP : va_P D vwCl [(h0, .inr (0, [.ref a1_, .null, .null, .int 0, .int 0, .int 0, .long 0])), (a1_, .inl (c1_, (512, .inr (.inl (fun _ => 0)))))] H := hP
  replace hD : va_D A [(h0, .inr (0, [.ref a1_, .null, .null, .int 0, .int 0, .int 0, .long 0])), (a1_, .inl (c1_, (512, .inr (.inl (fun _ => 0)))))] := hD
  refine lv_aload_n hx hb dX0_init_13 rfl (lv_at hl 0 rfl) ?_
  refine va_get (D := D) (ci := 0) (v := .ref a1_) (C := RX0) (T := TX0) (N := 7) hx hb hts (fun w h => List.mem_cons_of_mem _ (iX0 w h)) hown hK hP 0 rfl rfl 0 (by decide) (hts _ (List.mem_cons_of_mem _ tfl_X0_9)) (fun _ h9 => h9) rfl dX0_init_14 ?_
  refine lv_ldc2 (v := NOK) hx hb hown (hts _ (List.mem_cons_of_mem _ tcn_X0_13)) dX0_init_17 ?_
  refine q_callSv (As := [.ref a1_, .long NOK]) (rest := []) (wr := [(h0, .inr (0, [.ref a1_, .null, .null, .int 0, .int 0, .int 0, .long 0]))]) [1] [0] ⟨hx, hb, hml, hown, hts⟩ (c_J_fill l D a1_ c1_ (fun _ => 0) NOK _) (va_cwS 2 hts gX0_init_J7_fill rfl rfl rfl (by decide +kernel) ⟨Nat.le_of_ble_eq_true rfl, Nat.le_of_ble_eq_true rfl⟩) hK hP hD hS hA rfl rfl rfl (by decide) (by decide) (by decide) rfl hl.1 rfl (Nat.le_of_ble_eq_true rfl) dX0_init_20 ⟨Nat.le_of_ble_eq_true rfl, Nat.le_of_ble_eq_true rfl⟩ (fun kk H locs hkk hP hD hS => ?_)
  replace hP : va_P D vwCl [(h0, .inr (0, [.ref a1_, .null, .null, .int 0, .int 0, .int 0, .long 0])), (a1_, .inl (c1_, 512, .inr (.inl kk)))] H := hP
  replace hD : va_D A [(h0, .inr (0, [.ref a1_, .null, .null, .int 0, .int 0, .int 0, .long 0])), (a1_, .inl (c1_, 512, .inr (.inl kk)))] := hD
  refine lv_aload_n hx hb dX0_init_23 rfl (lv_at hl 0 rfl) ?_
  refine lv_sipush (v := 512) hx hb dX0_init_24 (by decide) ?_
  refine va_newa (atype := .long) hx hb (hts _ (List.mem_cons_of_mem _ tar_long)) rfl hK hP hD hS hA (a0 := (512, .inr (.inl (fun _ => 0)))) (N' := 512) (fun _ => rfl) (by decide) (by decide) (by decide) (Nat.le_of_ble_eq_true rfl) (Nat.le_of_ble_eq_true rfl) dX0_init_27 (fun a2_ c2_ H hK hP hD hS => ?_)
  replace hK : va_K D vwCl [(c1_, .long), (c2_, .long)] s := hK
  replace hP : va_P D vwCl [(h0, .inr (0, [.ref a1_, .null, .null, .int 0, .int 0, .int 0, .long 0])), (a1_, .inl (c1_, 512, .inr (.inl kk))), (a2_, .inl (c2_, (512, .inr (.inl (fun _ => 0)))))] H := hP
  replace hD : va_D A [(h0, .inr (0, [.ref a1_, .null, .null, .int 0, .int 0, .int 0, .long 0])), (a1_, .inl (c1_, 512, .inr (.inl kk))), (a2_, .inl (c2_, (512, .inr (.inl (fun _ => 0)))))] := hD
  refine W.widen (k := 2) (n := 1024) (by decide) (by decide) ?_
  refine va_putF (D := D) (ci := 0) (v := .ref a2_) (ty := .array .long) (C := RX0) (T := TX0) (N := 7) hx hb hts (fun w h => List.mem_cons_of_mem _ (iX0 w h)) tyX0 tyX0_ok nmX0 hown hK hP hD hS 0 rfl rfl 1 (by decide) (hts _ (List.mem_cons_of_mem _ tfl_X0_21)) (fun _ h9 => h9) rfl hname rfl (by decide +kernel) rfl rfl (Nat.le_of_ble_eq_true rfl) dX0_init_29 (fun H locs hP hD hS => ?_)
  replace hP : va_P D vwCl [(h0, .inr (0, [.ref a1_, .ref a2_, .null, .int 0, .int 0, .int 0, .long 0])), (a1_, .inl (c1_, 512, .inr (.inl kk))), (a2_, .inl (c2_, (512, .inr (.inl (fun _ => 0)))))] H := hP
  replace hD : va_D A [(h0, .inr (0, [.ref a1_, .ref a2_, .null, .int 0, .int 0, .int 0, .long 0])), (a1_, .inl (c1_, 512, .inr (.inl kk))), (a2_, .inl (c2_, (512, .inr (.inl (fun _ => 0)))))] := hD
  refine lv_aload_n hx hb dX0_init_32 rfl (lv_at hl 0 rfl) ?_
  refine lv_bipush (v := 14) hx hb dX0_init_33 (by decide) ?_
  refine va_newa (atype := .int) hx hb (hts _ (List.mem_cons_of_mem _ tar_int)) rfl hK hP hD hS hA (a0 := (14, .inl (fun _ => 0))) (N' := 14) (fun _ => rfl) (by decide) (by decide) (by decide) (Nat.le_of_ble_eq_true rfl) (Nat.le_of_ble_eq_true rfl) dX0_init_35 (fun a3_ c3_ H hK hP hD hS => ?_)
  replace hK : va_K D vwCl [(c1_, .long), (c2_, .long), (c3_, .int)] s := hK
  replace hP : va_P D vwCl [(h0, .inr (0, [.ref a1_, .ref a2_, .null, .int 0, .int 0, .int 0, .long 0])), (a1_, .inl (c1_, 512, .inr (.inl kk))), (a2_, .inl (c2_, (512, .inr (.inl (fun _ => 0))))), (a3_, .inl (c3_, (14, .inl (fun _ => 0))))] H := hP
  replace hD : va_D A [(h0, .inr (0, [.ref a1_, .ref a2_, .null, .int 0, .int 0, .int 0, .long 0])), (a1_, .inl (c1_, 512, .inr (.inl kk))), (a2_, .inl (c2_, (512, .inr (.inl (fun _ => 0))))), (a3_, .inl (c3_, (14, .inl (fun _ => 0))))] := hD
  refine W.widen (k := 3) (n := 1038) (by decide) (by decide) ?_
  refine va_putF (D := D) (ci := 0) (v := .ref a3_) (ty := .array .int) (C := RX0) (T := TX0) (N := 7) hx hb hts (fun w h => List.mem_cons_of_mem _ (iX0 w h)) tyX0 tyX0_ok nmX0 hown hK hP hD hS 0 rfl rfl 2 (by decide) (hts _ (List.mem_cons_of_mem _ tfl_X0_24)) (fun _ h9 => h9) rfl hname rfl (by decide +kernel) rfl rfl (Nat.le_of_ble_eq_true rfl) dX0_init_37 (fun H locs hP hD hS => ?_)
  replace hP : va_P D vwCl [(h0, .inr (0, [.ref a1_, .ref a2_, .ref a3_, .int 0, .int 0, .int 0, .long 0])), (a1_, .inl (c1_, 512, .inr (.inl kk))), (a2_, .inl (c2_, (512, .inr (.inl (fun _ => 0))))), (a3_, .inl (c3_, (14, .inl (fun _ => 0))))] H := hP
  replace hD : va_D A [(h0, .inr (0, [.ref a1_, .ref a2_, .ref a3_, .int 0, .int 0, .int 0, .long 0])), (a1_, .inl (c1_, 512, .inr (.inl kk))), (a2_, .inl (c2_, (512, .inr (.inl (fun _ => 0))))), (a3_, .inl (c3_, (14, .inl (fun _ => 0))))] := hD
  refine lv_aload_n hx hb dX0_init_40 rfl (lv_at hl 0 rfl) ?_
  refine lv_iload_n hx hb dX0_init_41 rfl (lv_at hl 1 rfl) ?_
  refine lv_bipush (v := 64) hx hb dX0_init_42 (by decide) ?_
  refine lv_icmp_ne (tgt := 51) hx hb dX0_init_44 (by decide) (fun c_1 => ?_) (fun c_1 => ?_)
  · refine lv_iload_n hx hb dX0_init_51 rfl (lv_at hl 1 rfl) ?_
    refine lv_bipush (v := 32) hx hb dX0_init_52 (by decide) ?_
    refine lv_icmp_ne (tgt := 61) hx hb dX0_init_54 (by decide) (fun c_2 => ?_) (fun c_2 => ?_)
    · refine lv_iconst (v := 1) hx hb dX0_init_61 (by decide) ?_
      refine va_putF (D := D) (ci := 0) (v := .int 1) (ty := .int) (C := RX0) (T := TX0) (N := 7) hx hb hts (fun w h => List.mem_cons_of_mem _ (iX0 w h)) tyX0 tyX0_ok nmX0 hown hK hP hD hS 0 rfl rfl 3 (by decide) (hts _ (List.mem_cons_of_mem _ tfl_X0_28)) (fun _ h9 => h9) rfl hname rfl (by decide +kernel) rfl rfl (Nat.le_of_ble_eq_true rfl) dX0_init_62 (fun H locs hP hD hS => ?_)
      replace hP : va_P D vwCl [(h0, .inr (0, [.ref a1_, .ref a2_, .ref a3_, .int 1, .int 0, .int 0, .long 0])), (a1_, .inl (c1_, 512, .inr (.inl kk))), (a2_, .inl (c2_, (512, .inr (.inl (fun _ => 0))))), (a3_, .inl (c3_, (14, .inl (fun _ => 0))))] H := hP
      replace hD : va_D A [(h0, .inr (0, [.ref a1_, .ref a2_, .ref a3_, .int 1, .int 0, .int 0, .long 0])), (a1_, .inl (c1_, 512, .inr (.inl kk))), (a2_, .inl (c2_, (512, .inr (.inl (fun _ => 0))))), (a3_, .inl (c3_, (14, .inl (fun _ => 0))))] := hD
      refine lv_aload_n hx hb dX0_init_65 rfl (lv_at hl 0 rfl) ?_
      refine lv_aload_n hx hb dX0_init_66 rfl (lv_at hl 0 rfl) ?_
      refine va_get (D := D) (ci := 0) (v := .int 1) (C := RX0) (T := TX0) (N := 7) hx hb hts (fun w h => List.mem_cons_of_mem _ (iX0 w h)) hown hK hP 0 rfl rfl 3 (by decide) (hts _ (List.mem_cons_of_mem _ tfl_X0_28)) (fun _ h9 => h9) rfl dX0_init_67 ?_
      refine va_put (D := D) (ci := 0) (v := .int 1) (ty := .int) (C := RX0) (T := TX0) (N := 7) hx hb hts (fun w h => List.mem_cons_of_mem _ (iX0 w h)) tyX0 tyX0_ok nmX0 hown hK hP hD hS 0 rfl rfl 4 (by decide) (hts _ (List.mem_cons_of_mem _ tfl_X0_32)) (fun _ h9 => h9) rfl (by decide +kernel) rfl rfl (Nat.le_of_ble_eq_true rfl) dX0_init_70 (fun H locs hP hD hS => ?_)
      replace hP : va_P D vwCl [(h0, .inr (0, [.ref a1_, .ref a2_, .ref a3_, .int 1, .int 1, .int 0, .long 0])), (a1_, .inl (c1_, 512, .inr (.inl kk))), (a2_, .inl (c2_, (512, .inr (.inl (fun _ => 0))))), (a3_, .inl (c3_, (14, .inl (fun _ => 0))))] H := hP
      replace hD : va_D A [(h0, .inr (0, [.ref a1_, .ref a2_, .ref a3_, .int 1, .int 1, .int 0, .long 0])), (a1_, .inl (c1_, 512, .inr (.inl kk))), (a2_, .inl (c2_, (512, .inr (.inl (fun _ => 0))))), (a3_, .inl (c3_, (14, .inl (fun _ => 0))))] := hD
      refine lv_aload_n hx hb dX0_init_73 rfl (lv_at hl 0 rfl) ?_
      refine lv_iconst (v := (-1)) hx hb dX0_init_74 (by decide) ?_
      refine va_put (D := D) (ci := 0) (v := .int (-1)) (ty := .int) (C := RX0) (T := TX0) (N := 7) hx hb hts (fun w h => List.mem_cons_of_mem _ (iX0 w h)) tyX0 tyX0_ok nmX0 hown hK hP hD hS 0 rfl rfl 5 (by decide) (hts _ (List.mem_cons_of_mem _ tfl_X0_35)) (fun _ h9 => h9) rfl (by decide +kernel) rfl rfl (Nat.le_of_ble_eq_true rfl) dX0_init_75 (fun H locs hP hD hS => ?_)
      replace hP : va_P D vwCl [(h0, .inr (0, [.ref a1_, .ref a2_, .ref a3_, .int 1, .int 1, .int (-1), .long 0])), (a1_, .inl (c1_, 512, .inr (.inl kk))), (a2_, .inl (c2_, (512, .inr (.inl (fun _ => 0))))), (a3_, .inl (c3_, (14, .inl (fun _ => 0))))] H := hP
      replace hD : va_D A [(h0, .inr (0, [.ref a1_, .ref a2_, .ref a3_, .int 1, .int 1, .int (-1), .long 0])), (a1_, .inl (c1_, 512, .inr (.inl kk))), (a2_, .inl (c2_, (512, .inr (.inl (fun _ => 0))))), (a3_, .inl (c3_, (14, .inl (fun _ => 0))))] := hD
      refine lv_aload_n hx hb dX0_init_78 rfl (lv_at hl 0 rfl) ?_
      refine lv_lconst (v := 0) hx hb dX0_init_79 (by decide) ?_
      refine va_put (D := D) (ci := 0) (v := .long 0) (ty := .long) (C := RX0) (T := TX0) (N := 7) hx hb hts (fun w h => List.mem_cons_of_mem _ (iX0 w h)) tyX0 tyX0_ok nmX0 hown hK hP hD hS 0 rfl rfl 6 (by decide) (hts _ (List.mem_cons_of_mem _ tfl_X0_38)) (fun _ h9 => h9) rfl (by decide +kernel) rfl rfl (Nat.le_of_ble_eq_true rfl) dX0_init_80 (fun H locs hP hD hS => ?_)
      replace hP : va_P D vwCl [(h0, .inr (0, [.ref a1_, .ref a2_, .ref a3_, .int 1, .int 1, .int (-1), .long 0])), (a1_, .inl (c1_, 512, .inr (.inl kk))), (a2_, .inl (c2_, (512, .inr (.inl (fun _ => 0))))), (a3_, .inl (c3_, (14, .inl (fun _ => 0))))] H := hP
      replace hD : va_D A [(h0, .inr (0, [.ref a1_, .ref a2_, .ref a3_, .int 1, .int 1, .int (-1), .long 0])), (a1_, .inl (c1_, 512, .inr (.inl kk))), (a2_, .inl (c2_, (512, .inr (.inl (fun _ => 0))))), (a3_, .inl (c3_, (14, .inl (fun _ => 0))))] := hD
      exact W.vret hx hb hr (fun t ht hW => ⟨⟨((fun k => if k = 0 then h0 else if k = 1 then a1_ else if k = 2 then a2_ else a3_), (fun k => if k = 1 then c1_ else if k = 2 then c2_ else c3_), kk, 1), rfl, ⟨rfl, hkk, by exact Or.inr (Or.inr ⟨c_1, c_2, rfl⟩)⟩, by rw [ht]; exact hP, va_K.moved hW.alike hK, hD⟩, hS.F ht⟩) hS.2.2 dX0_init_83
    · refine lv_iconst (v := 2) hx hb dX0_init_57 (by decide) ?_
      refine lv_goto (tgt := 62) hx hb dX0_init_58 (by decide) ?_
      refine va_putF (D := D) (ci := 0) (v := .int 2) (ty := .int) (C := RX0) (T := TX0) (N := 7) hx hb hts (fun w h => List.mem_cons_of_mem _ (iX0 w h)) tyX0 tyX0_ok nmX0 hown hK hP hD hS 0 rfl rfl 3 (by decide) (hts _ (List.mem_cons_of_mem _ tfl_X0_28)) (fun _ h9 => h9) rfl hname rfl (by decide +kernel) rfl rfl (Nat.le_of_ble_eq_true rfl) dX0_init_62 (fun H locs hP hD hS => ?_)
      replace hP : va_P D vwCl [(h0, .inr (0, [.ref a1_, .ref a2_, .ref a3_, .int 2, .int 0, .int 0, .long 0])), (a1_, .inl (c1_, 512, .inr (.inl kk))), (a2_, .inl (c2_, (512, .inr (.inl (fun _ => 0))))), (a3_, .inl (c3_, (14, .inl (fun _ => 0))))] H := hP
      replace hD : va_D A [(h0, .inr (0, [.ref a1_, .ref a2_, .ref a3_, .int 2, .int 0, .int 0, .long 0])), (a1_, .inl (c1_, 512, .inr (.inl kk))), (a2_, .inl (c2_, (512, .inr (.inl (fun _ => 0))))), (a3_, .inl (c3_, (14, .inl (fun _ => 0))))] := hD
      refine lv_aload_n hx hb dX0_init_65 rfl (lv_at hl 0 rfl) ?_
      refine lv_aload_n hx hb dX0_init_66 rfl (lv_at hl 0 rfl) ?_
      refine va_get (D := D) (ci := 0) (v := .int 2) (C := RX0) (T := TX0) (N := 7) hx hb hts (fun w h => List.mem_cons_of_mem _ (iX0 w h)) hown hK hP 0 rfl rfl 3 (by decide) (hts _ (List.mem_cons_of_mem _ tfl_X0_28)) (fun _ h9 => h9) rfl dX0_init_67 ?_
      refine va_put (D := D) (ci := 0) (v := .int 2) (ty := .int) (C := RX0) (T := TX0) (N := 7) hx hb hts (fun w h => List.mem_cons_of_mem _ (iX0 w h)) tyX0 tyX0_ok nmX0 hown hK hP hD hS 0 rfl rfl 4 (by decide) (hts _ (List.mem_cons_of_mem _ tfl_X0_32)) (fun _ h9 => h9) rfl (by decide +kernel) rfl rfl (Nat.le_of_ble_eq_true rfl) dX0_init_70 (fun H locs hP hD hS => ?_)
      replace hP : va_P D vwCl [(h0, .inr (0, [.ref a1_, .ref a2_, .ref a3_, .int 2, .int 2, .int 0, .long 0])), (a1_, .inl (c1_, 512, .inr (.inl kk))), (a2_, .inl (c2_, (512, .inr (.inl (fun _ => 0))))), (a3_, .inl (c3_, (14, .inl (fun _ => 0))))] H := hP
      replace hD : va_D A [(h0, .inr (0, [.ref a1_, .ref a2_, .ref a3_, .int 2, .int 2, .int 0, .long 0])), (a1_, .inl (c1_, 512, .inr (.inl kk))), (a2_, .inl (c2_, (512, .inr (.inl (fun _ => 0))))), (a3_, .inl (c3_, (14, .inl (fun _ => 0))))] := hD
      refine lv_aload_n hx hb dX0_init_73 rfl (lv_at hl 0 rfl) ?_
      refine lv_iconst (v := (-1)) hx hb dX0_init_74 (by decide) ?_
      refine va_put (D := D) (ci := 0) (v := .int (-1)) (ty := .int) (C := RX0) (T := TX0) (N := 7) hx hb hts (fun w h => List.mem_cons_of_mem _ (iX0 w h)) tyX0 tyX0_ok nmX0 hown hK hP hD hS 0 rfl rfl 5 (by decide) (hts _ (List.mem_cons_of_mem _ tfl_X0_35)) (fun _ h9 => h9) rfl (by decide +kernel) rfl rfl (Nat.le_of_ble_eq_true rfl) dX0_init_75 (fun H locs hP hD hS => ?_)
      replace hP : va_P D vwCl [(h0, .inr (0, [.ref a1_, .ref a2_, .ref a3_, .int 2, .int 2, .int (-1), .long 0])), (a1_, .inl (c1_, 512, .inr (.inl kk))), (a2_, .inl (c2_, (512, .inr (.inl (fun _ => 0))))), (a3_, .inl (c3_, (14, .inl (fun _ => 0))))] H := hP
      replace hD : va_D A [(h0, .inr (0, [.ref a1_, .ref a2_, .ref a3_, .int 2, .int 2, .int (-1), .long 0])), (a1_, .inl (c1_, 512, .inr (.inl kk))), (a2_, .inl (c2_, (512, .inr (.inl (fun _ => 0))))), (a3_, .inl (c3_, (14, .inl (fun _ => 0))))] := hD
      refine lv_aload_n hx hb dX0_init_78 rfl (lv_at hl 0 rfl) ?_
      refine lv_lconst (v := 0) hx hb dX0_init_79 (by decide) ?_
      refine va_put (D := D) (ci := 0) (v := .long 0) (ty := .long) (C := RX0) (T := TX0) (N := 7) hx hb hts (fun w h => List.mem_cons_of_mem _ (iX0 w h)) tyX0 tyX0_ok nmX0 hown hK hP hD hS 0 rfl rfl 6 (by decide) (hts _ (List.mem_cons_of_mem _ tfl_X0_38)) (fun _ h9 => h9) rfl (by decide +kernel) rfl rfl (Nat.le_of_ble_eq_true rfl) dX0_init_80 (fun H locs hP hD hS => ?_)
      replace hP : va_P D vwCl [(h0, .inr (0, [.ref a1_, .ref a2_, .ref a3_, .int 2, .int 2, .int (-1), .long 0])), (a1_, .inl (c1_, 512, .inr (.inl kk))), (a2_, .inl (c2_, (512, .inr (.inl (fun _ => 0))))), (a3_, .inl (c3_, (14, .inl (fun _ => 0))))] H := hP
      replace hD : va_D A [(h0, .inr (0, [.ref a1_, .ref a2_, .ref a3_, .int 2, .int 2, .int (-1), .long 0])), (a1_, .inl (c1_, 512, .inr (.inl kk))), (a2_, .inl (c2_, (512, .inr (.inl (fun _ => 0))))), (a3_, .inl (c3_, (14, .inl (fun _ => 0))))] := hD
      exact W.vret hx hb hr (fun t ht hW => ⟨⟨((fun k => if k = 0 then h0 else if k = 1 then a1_ else if k = 2 then a2_ else a3_), (fun k => if k = 1 then c1_ else if k = 2 then c2_ else c3_), kk, 2), rfl, ⟨rfl, hkk, by exact Or.inr (Or.inl ⟨c_1, c_2, rfl⟩)⟩, by rw [ht]; exact hP, va_K.moved hW.alike hK, hD⟩, hS.F ht⟩) hS.2.2 dX0_init_83
  · refine lv_iconst (v := 3) hx hb dX0_init_47 (by decide) ?_
    refine lv_goto (tgt := 62) hx hb dX0_init_48 (by decide) ?_
    refine va_putF (D := D) (ci := 0) (v := .int 3) (ty := .int) (C := RX0) (T := TX0) (N := 7) hx hb hts (fun w h => List.mem_cons_of_mem _ (iX0 w h)) tyX0 tyX0_ok nmX0 hown hK hP hD hS 0 rfl rfl 3 (by decide) (hts _ (List.mem_cons_of_mem _ tfl_X0_28)) (fun _ h9 => h9) rfl hname rfl (by decide +kernel) rfl rfl (Nat.le_of_ble_eq_true rfl) dX0_init_62 (fun H locs hP hD hS => ?_)
    replace hP : va_P D vwCl [(h0, .inr (0, [.ref a1_, .ref a2_, .ref a3_, .int 3, .int 0, .int 0, .long 0])), (a1_, .inl (c1_, 512, .inr (.inl kk))), (a2_, .inl (c2_, (512, .inr (.inl (fun _ => 0))))), (a3_, .inl (c3_, (14, .inl (fun _ => 0))))] H := hP
    replace hD : va_D A [(h0, .inr (0, [.ref a1_, .ref a2_, .ref a3_, .int 3, .int 0, .int 0, .long 0])), (a1_, .inl (c1_, 512, .inr (.inl kk))), (a2_, .inl (c2_, (512, .inr (.inl (fun _ => 0))))), (a3_, .inl (c3_, (14, .inl (fun _ => 0))))] := hD
    refine lv_aload_n hx hb dX0_init_65 rfl (lv_at hl 0 rfl) ?_
    refine lv_aload_n hx hb dX0_init_66 rfl (lv_at hl 0 rfl) ?_
    refine va_get (D := D) (ci := 0) (v := .int 3) (C := RX0) (T := TX0) (N := 7) hx hb hts (fun w h => List.mem_cons_of_mem _ (iX0 w h)) hown hK hP 0 rfl rfl 3 (by decide) (hts _ (List.mem_cons_of_mem _ tfl_X0_28)) (fun _ h9 => h9) rfl dX0_init_67 ?_
    refine va_put (D := D) (ci := 0) (v := .int 3) (ty := .int) (C := RX0) (T := TX0) (N := 7) hx hb hts (fun w h => List.mem_cons_of_mem _ (iX0 w h)) tyX0 tyX0_ok nmX0 hown hK hP hD hS 0 rfl rfl 4 (by decide) (hts _ (List.mem_cons_of_mem _ tfl_X0_32)) (fun _ h9 => h9) rfl (by decide +kernel) rfl rfl (Nat.le_of_ble_eq_true rfl) dX0_init_70 (fun H locs hP hD hS => ?_)
    replace hP : va_P D vwCl [(h0, .inr (0, [.ref a1_, .ref a2_, .ref a3_, .int 3, .int 3, .int 0, .long 0])), (a1_, .inl (c1_, 512, .inr (.inl kk))), (a2_, .inl (c2_, (512, .inr (.inl (fun _ => 0))))), (a3_, .inl (c3_, (14, .inl (fun _ => 0))))] H := hP
    replace hD : va_D A [(h0, .inr (0, [.ref a1_, .ref a2_, .ref a3_, .int 3, .int 3, .int 0, .long 0])), (a1_, .inl (c1_, 512, .inr (.inl kk))), (a2_, .inl (c2_, (512, .inr (.inl (fun _ => 0))))), (a3_, .inl (c3_, (14, .inl (fun _ => 0))))] := hD
    refine lv_aload_n hx hb dX0_init_73 rfl (lv_at hl 0 rfl) ?_
    refine lv_iconst (v := (-1)) hx hb dX0_init_74 (by decide) ?_
    refine va_put (D := D) (ci := 0) (v := .int (-1)) (ty := .int) (C := RX0) (T := TX0) (N := 7) hx hb hts (fun w h => List.mem_cons_of_mem _ (iX0 w h)) tyX0 tyX0_ok nmX0 hown hK hP hD hS 0 rfl rfl 5 (by decide) (hts _ (List.mem_cons_of_mem _ tfl_X0_35)) (fun _ h9 => h9) rfl (by decide +kernel) rfl rfl (Nat.le_of_ble_eq_true rfl) dX0_init_75 (fun H locs hP hD hS => ?_)
    replace hP : va_P D vwCl [(h0, .inr (0, [.ref a1_, .ref a2_, .ref a3_, .int 3, .int 3, .int (-1), .long 0])), (a1_, .inl (c1_, 512, .inr (.inl kk))), (a2_, .inl (c2_, (512, .inr (.inl (fun _ => 0))))), (a3_, .inl (c3_, (14, .inl (fun _ => 0))))] H := hP
    replace hD : va_D A [(h0, .inr (0, [.ref a1_, .ref a2_, .ref a3_, .int 3, .int 3, .int (-1), .long 0])), (a1_, .inl (c1_, 512, .inr (.inl kk))), (a2_, .inl (c2_, (512, .inr (.inl (fun _ => 0))))), (a3_, .inl (c3_, (14, .inl (fun _ => 0))))] := hD
    refine lv_aload_n hx hb dX0_init_78 rfl (lv_at hl 0 rfl) ?_
    refine lv_lconst (v := 0) hx hb dX0_init_79 (by decide) ?_
    refine va_put (D := D) (ci := 0) (v := .long 0) (ty := .long) (C := RX0) (T := TX0) (N := 7) hx hb hts (fun w h => List.mem_cons_of_mem _ (iX0 w h)) tyX0 tyX0_ok nmX0 hown hK hP hD hS 0 rfl rfl 6 (by decide) (hts _ (List.mem_cons_of_mem _ tfl_X0_38)) (fun _ h9 => h9) rfl (by decide +kernel) rfl rfl (Nat.le_of_ble_eq_true rfl) dX0_init_80 (fun H locs hP hD hS => ?_)
    replace hP : va_P D vwCl [(h0, .inr (0, [.ref a1_, .ref a2_, .ref a3_, .int 3, .int 3, .int (-1), .long 0])), (a1_, .inl (c1_, 512, .inr (.inl kk))), (a2_, .inl (c2_, (512, .inr (.inl (fun _ => 0))))), (a3_, .inl (c3_, (14, .inl (fun _ => 0))))] H := hP
    replace hD : va_D A [(h0, .inr (0, [.ref a1_, .ref a2_, .ref a3_, .int 3, .int 3, .int (-1), .long 0])), (a1_, .inl (c1_, 512, .inr (.inl kk))), (a2_, .inl (c2_, (512, .inr (.inl (fun _ => 0))))), (a3_, .inl (c3_, (14, .inl (fun _ => 0))))] := hD
    exact W.vret hx hb hr (fun t ht hW => ⟨⟨((fun k => if k = 0 then h0 else if k = 1 then a1_ else if k = 2 then a2_ else a3_), (fun k => if k = 1 then c1_ else if k = 2 then c2_ else c3_), kk, 3), rfl, ⟨rfl, hkk, by exact Or.inl ⟨c_1, rfl⟩⟩, by rw [ht]; exact hP, va_K.moved hW.alike hK, hD⟩, hS.F ht⟩) hS.2.2 dX0_init_83
set_option maxHeartbeats 4000000 in
set_option maxRecDepth 100000 in
theorem c_M_init (l : Launch) (D : va_G) (h0 : Nat) (a1 : Int32) (sz : Nat) : Met l yX1_init wsX1_init ({ frames := 1, cells := 5, slots := 2562, locals := 32 }) (qP D vwCl [] [(h0, .inr (1, [.int 0, .int 0, .null, .null, .null, .int 0, .long 0, .int 0, .null, .null]))] sz [.ref h0, .int a1]) (va_Qv (fun u : (Nat → Nat) × (Nat → ClassId) × Int32 => u.1 0 = h0 ∧ ((a1 = 64 ∧ u.2.2 = 64) ∨ (a1 = 32 ∧ u.2.2 = 32) ∨ (¬ a1 = 64 ∧ ¬ a1 = 32 ∧ u.2.2 = 16))) (fun u t => va_P D vwCl (wM u.1 u.2.1 u.2.2 u.2.2 (fun _ => 0) (fun _ => 0) (fun _ => 0) (-1) 0 0 (fun _ => 0) (fun _ => 0)) t.heap ∧ va_K D vwCl (tM u.2.1) t ∧ va_D (va_A [(h0, .inr (1, [.int 0, .int 0, .null, .null, .null, .int 0, .long 0, .int 0, .null, .null]))] sz) (wM u.1 u.2.1 u.2.2 u.2.2 (fun _ => 0) (fun _ => 0) (fun _ => 0) (-1) 0 0 (fun _ => 0) (fun _ => 0))) (va_A [(h0, .inr (1, [.int 0, .int 0, .null, .null, .null, .int 0, .long 0, .int 0, .null, .null]))] sz)) 5 2562 (va_A [(h0, .inr (1, [.int 0, .int 0, .null, .null, .null, .int 0, .long 0, .int 0, .null, .null]))] sz) := by
  refine q_enter (cc := cX1_init) (maxL := 2) (ret := none) (fun A => va_Qv (fun u : (Nat → Nat) × (Nat → ClassId) × Int32 => u.1 0 = h0 ∧ ((a1 = 64 ∧ u.2.2 = 64) ∨ (a1 = 32 ∧ u.2.2 = 32) ∨ (¬ a1 = 64 ∧ ¬ a1 = 32 ∧ u.2.2 = 16))) (fun u t => va_P D vwCl (wM u.1 u.2.1 u.2.2 u.2.2 (fun _ => 0) (fun _ => 0) (fun _ => 0) (-1) 0 0 (fun _ => 0) (fun _ => 0)) t.heap ∧ va_K D vwCl (tM u.2.1) t ∧ va_D A (wM u.1 u.2.1 u.2.2 u.2.2 (fun _ => 0) (fun _ => 0) (fun _ => 0) (-1) 0 0 (fun _ => 0) (fun _ => 0))) A) (by decide +kernel) rfl (Nat.le_of_ble_eq_true rfl) ?_
  intro p e s m below meth c A ls hx hb hr hml hown hts hlocks hname hP hK hD hA hl
  replace hown : s.vm.findClass RX1 = some m.cls := hown
  replace hl : lv_has ls 2 [(0, .ref h0), (1, .int a1)] := hl
  have hS : va_S A s.heap s.heap [] := va_S.rf
  refine lv_aload_n hx hb dX1_init_0 rfl (lv_at hl 0 rfl) ?_
  refine W.objInit hx hb hown (hts _ (List.mem_cons_of_mem _ tml_X1_1)) (hts _ (List.mem_cons_of_mem _ tim_objectInit)) (hts _ (List.mem_cons_of_mem _ tco_objectInit)) rfl (by rw [hml]; exact hl.1) rfl dX1_init_1 (Nat.le_of_ble_eq_true rfl) (Nat.le_of_ble_eq_true rfl) ?_
  refine W.eq (g2 := F0 m 4 ls []) rfl ?_
  refine lv_aload_n hx hb dX1_init_4 rfl (lv_at hl 0 rfl) ?_
  refine lv_sipush (v := 512) hx hb dX1_init_5 (by decide) ?_
  refine va_newa (atype := .boolean) hx hb (hts _ (List.mem_cons_of_mem _ tar_boolean)) rfl hK hP hD hS hA (a0 := (512, .inl (fun _ => 0))) (N' := 512) (fun _ => rfl) (by decide) (by decide) (by decide) (Nat.le_of_ble_eq_true rfl) (Nat.le_of_ble_eq_true rfl) dX1_init_8 (fun a1_ c1_ H hK hP hD hS => ?_)
  replace hK : va_K D vwCl [(c1_, .boolean)] s := hK
  replace hP : va_P D vwCl [(h0, .inr (1, [.int 0, .int 0, .null, .null, .null, .int 0, .long 0, .int 0, .null, .null])), (a1_, .inl (c1_, (512, .inl (fun _ => 0))))] H := hP
  replace hD : va_D A [(h0, .inr (1, [.int 0, .int 0, .null, .null, .null, .int 0, .long 0, .int 0, .null, .null])), (a1_, .inl (c1_, (512, .inl (fun _ => 0))))] := hD
  refine W.widen (k := 1) (n := 512) (by decide) (by decide) ?_
  refine va_putF (D := D) (ci := 1) (v := .ref a1_) (ty := .array .boolean) (C := RX1) (T := TX1) (N := 10) hx hb hts (fun w h => List.mem_cons_of_mem _ (iX1 w h)) tyX1 tyX1_ok nmX1 hown hK hP hD hS 0 rfl rfl 2 (by decide) (hts _ (List.mem_cons_of_mem _ tfl_X1_7)) (fun _ h9 => h9) rfl hname rfl (by decide +kernel) rfl rfl (Nat.le_of_ble_eq_true rfl) dX1_init_10 (fun H locs hP hD hS => ?_)
  replace hP : va_P D vwCl [(h0, .inr (1, [.int 0, .int 0, .ref a1_, .null, .null, .int 0, .long 0, .int 0, .null, .null])), (a1_, .inl (c1_, (512, .inl (fun _ => 0))))] H := hP
  replace hD : va_D A [(h0, .inr (1, [.int 0, .int 0, .ref a1_, .null, .null, .int 0, .long 0, .int 0, .null, .null])), (a1_, .inl (c1_, (512, .inl (fun _ => 0))))] := hD
  refine lv_aload_n hx hb dX1_init_13 rfl (lv_at hl 0 rfl) ?_
  refine lv_sipush (v := 512) hx hb dX1_init_14 (by decide) ?_
  refine va_newa (atype := .long) hx hb (hts _ (List.mem_cons_of_mem _ tar_long)) rfl hK hP hD hS hA (a0 := (512, .inr (.inl (fun _ => 0)))) (N' := 512) (fun _ => rfl) (by decide) (by decide) (by decide) (Nat.le_of_ble_eq_true rfl) (Nat.le_of_ble_eq_true rfl) dX1_init_17 (fun a2_ c2_ H hK hP hD hS => ?_)
  replace hK : va_K D vwCl [(c1_, .boolean), (c2_, .long)] s := hK
  replace hP : va_P D vwCl [(h0, .inr (1, [.int 0, .int 0, .ref a1_, .null, .null, .int 0, .long 0, .int 0, .null, .null])), (a1_, .inl (c1_, (512, .inl (fun _ => 0)))), (a2_, .inl (c2_, (512, .inr (.inl (fun _ => 0)))))] H := hP
  replace hD : va_D A [(h0, .inr (1, [.int 0, .int 0, .ref a1_, .null, .null, .int 0, .long 0, .int 0, .null, .null])), (a1_, .inl (c1_, (512, .inl (fun _ => 0)))), (a2_, .inl (c2_, (512, .inr (.inl (fun _ => 0)))))] := hD
  refine W.widen (k := 2) (n := 1024) (by decide) (by decide) ?_
  refine va_putF (D := D) (ci := 1) (v := .ref a2_) (ty := .array .long) (C := RX1) (T := TX1) (N := 10) hx hb hts (fun w h => List.mem_cons_of_mem _ (iX1 w h)) tyX1 tyX1_ok nmX1 hown hK hP hD hS 0 rfl rfl 3 (by decide) (hts _ (List.mem_cons_of_mem _ tfl_X1_13)) (fun _ h9 => h9) rfl hname rfl (by decide +kernel) rfl rfl (Nat.le_of_ble_eq_true rfl) dX1_init_19 (fun H locs hP hD hS => ?_)
  replace hP : va_P D vwCl [(h0, .inr (1, [.int 0, .int 0, .ref a1_, .ref a2_, .null, .int 0, .long 0, .int 0, .null, .null])), (a1_, .inl (c1_, (512, .inl (fun _ => 0)))), (a2_, .inl (c2_, (512, .inr (.inl (fun _ => 0)))))] H := hP
  replace hD : va_D A [(h0, .inr (1, [.int 0, .int 0, .ref a1_, .ref a2_, .null, .int 0, .long 0, .int 0, .null, .null])), (a1_, .inl (c1_, (512, .inl (fun _ => 0)))), (a2_, .inl (c2_, (512, .inr (.inl (fun _ => 0)))))] := hD
  refine lv_aload_n hx hb dX1_init_22 rfl (lv_at hl 0 rfl) ?_
  refine lv_sipush (v := 512) hx hb dX1_init_23 (by decide) ?_
  refine va_newa (atype := .long) hx hb (hts _ (List.mem_cons_of_mem _ tar_long)) rfl hK hP hD hS hA (a0 := (512, .inr (.inl (fun _ => 0)))) (N' := 512) (fun _ => rfl) (by decide) (by decide) (by decide) (Nat.le_of_ble_eq_true rfl) (Nat.le_of_ble_eq_true rfl) dX1_init_26 (fun a3_ c3_ H hK hP hD hS => ?_)
  replace hK : va_K D vwCl [(c1_, .boolean), (c2_, .long), (c3_, .long)] s := hK
  replace hP : va_P D vwCl [(h0, .inr (1, [.int 0, .int 0, .ref a1_, .ref a2_, .null, .int 0, .long 0, .int 0, .null, .null])), (a1_, .inl (c1_, (512, .inl (fun _ => 0)))), (a2_, .inl (c2_, (512, .inr (.inl (fun _ => 0))))), (a3_, .inl (c3_, (512, .inr (.inl (fun _ => 0)))))] H := hP
  replace hD : va_D A [(h0, .inr (1, [.int 0, .int 0, .ref a1_, .ref a2_, .null, .int 0, .long 0, .int 0, .null, .null])), (a1_, .inl (c1_, (512, .inl (fun _ => 0)))), (a2_, .inl (c2_, (512, .inr (.inl (fun _ => 0))))), (a3_, .inl (c3_, (512, .inr (.inl (fun _ => 0)))))] := hD
  refine W.widen (k := 3) (n := 1536) (by decide) (by decide) ?_
  refine va_putF (D := D) (ci := 1) (v := .ref a3_) (ty := .array .long) (C := RX1) (T := TX1) (N := 10) hx hb hts (fun w h => List.mem_cons_of_mem _ (iX1 w h)) tyX1 tyX1_ok nmX1 hown hK hP hD hS 0 rfl rfl 4 (by decide) (hts _ (List.mem_cons_of_mem _ tfl_X1_17)) (fun _ h9 => h9) rfl hname rfl (by decide +kernel) rfl rfl (Nat.le_of_ble_eq_true rfl) dX1_init_28 (fun H locs hP hD hS => ?_)
  replace hP : va_P D vwCl [(h0, .inr (1, [.int 0, .int 0, .ref a1_, .ref a2_, .ref a3_, .int 0, .long 0, .int 0, .null, .null])), (a1_, .inl (c1_, (512, .inl (fun _ => 0)))), (a2_, .inl (c2_, (512, .inr (.inl (fun _ => 0))))), (a3_, .inl (c3_, (512, .inr (.inl (fun _ => 0)))))] H := hP
  replace hD : va_D A [(h0, .inr (1, [.int 0, .int 0, .ref a1_, .ref a2_, .ref a3_, .int 0, .long 0, .int 0, .null, .null])), (a1_, .inl (c1_, (512, .inl (fun _ => 0)))), (a2_, .inl (c2_, (512, .inr (.inl (fun _ => 0))))), (a3_, .inl (c3_, (512, .inr (.inl (fun _ => 0)))))] := hD
  refine lv_aload_n hx hb dX1_init_31 rfl (lv_at hl 0 rfl) ?_
  refine lv_iconst (v := (-1)) hx hb dX1_init_32 (by decide) ?_
  refine va_put (D := D) (ci := 1) (v := .int (-1)) (ty := .int) (C := RX1) (T := TX1) (N := 10) hx hb hts (fun w h => List.mem_cons_of_mem _ (iX1 w h)) tyX1 tyX1_ok nmX1 hown hK hP hD hS 0 rfl rfl 5 (by decide) (hts _ (List.mem_cons_of_mem _ tfl_X1_20)) (fun _ h9 => h9) rfl (by decide +kernel) rfl rfl (Nat.le_of_ble_eq_true rfl) dX1_init_33 (fun H locs hP hD hS => ?_)
  replace hP : va_P D vwCl [(h0, .inr (1, [.int 0, .int 0, .ref a1_, .ref a2_, .ref a3_, .int (-1), .long 0, .int 0, .null, .null])), (a1_, .inl (c1_, (512, .inl (fun _ => 0)))), (a2_, .inl (c2_, (512, .inr (.inl (fun _ => 0))))), (a3_, .inl (c3_, (512, .inr (.inl (fun _ => 0)))))] H := hP
  replace hD : va_D A [(h0, .inr (1, [.int 0, .int 0, .ref a1_, .ref a2_, .ref a3_, .int (-1), .long 0, .int 0, .null, .null])), (a1_, .inl (c1_, (512, .inl (fun _ => 0)))), (a2_, .inl (c2_, (512, .inr (.inl (fun _ => 0))))), (a3_, .inl (c3_, (512, .inr (.inl (fun _ => 0)))))] := hD
  refine lv_aload_n hx hb dX1_init_36 rfl (lv_at hl 0 rfl) ?_
  refine lv_sipush (v := 513) hx hb dX1_init_37 (by decide) ?_
  refine va_newa (atype := .long) hx hb (hts _ (List.mem_cons_of_mem _ tar_long)) rfl hK hP hD hS hA (a0 := (513, .inr (.inl (fun _ => 0)))) (N' := 513) (fun _ => rfl) (by decide) (by decide) (by decide) (Nat.le_of_ble_eq_true rfl) (Nat.le_of_ble_eq_true rfl) dX1_init_40 (fun a4_ c4_ H hK hP hD hS => ?_)
  replace hK : va_K D vwCl [(c1_, .boolean), (c2_, .long), (c3_, .long), (c4_, .long)] s := hK
  replace hP : va_P D vwCl [(h0, .inr (1, [.int 0, .int 0, .ref a1_, .ref a2_, .ref a3_, .int (-1), .long 0, .int 0, .null, .null])), (a1_, .inl (c1_, (512, .inl (fun _ => 0)))), (a2_, .inl (c2_, (512, .inr (.inl (fun _ => 0))))), (a3_, .inl (c3_, (512, .inr (.inl (fun _ => 0))))), (a4_, .inl (c4_, (513, .inr (.inl (fun _ => 0)))))] H := hP
  replace hD : va_D A [(h0, .inr (1, [.int 0, .int 0, .ref a1_, .ref a2_, .ref a3_, .int (-1), .long 0, .int 0, .null, .null])), (a1_, .inl (c1_, (512, .inl (fun _ => 0)))), (a2_, .inl (c2_, (512, .inr (.inl (fun _ => 0))))), (a3_, .inl (c3_, (512, .inr (.inl (fun _ => 0))))), (a4_, .inl (c4_, (513, .inr (.inl (fun _ => 0)))))] := hD
  refine W.widen (k := 4) (n := 2049) (by decide) (by decide) ?_
  refine va_putF (D := D) (ci := 1) (v := .ref a4_) (ty := .array .long) (C := RX1) (T := TX1) (N := 10) hx hb hts (fun w h => List.mem_cons_of_mem _ (iX1 w h)) tyX1 tyX1_ok nmX1 hown hK hP hD hS 0 rfl rfl 8 (by decide) (hts _ (List.mem_cons_of_mem _ tfl_X1_24)) (fun _ h9 => h9) rfl hname rfl (by decide +kernel) rfl rfl (Nat.le_of_ble_eq_true rfl) dX1_init_42 (fun H locs hP hD hS => ?_)
  replace hP : va_P D vwCl [(h0, .inr (1, [.int 0, .int 0, .ref a1_, .ref a2_, .ref a3_, .int (-1), .long 0, .int 0, .ref a4_, .null])), (a1_, .inl (c1_, (512, .inl (fun _ => 0)))), (a2_, .inl (c2_, (512, .inr (.inl (fun _ => 0))))), (a3_, .inl (c3_, (512, .inr (.inl (fun _ => 0))))), (a4_, .inl (c4_, (513, .inr (.inl (fun _ => 0)))))] H := hP
  replace hD : va_D A [(h0, .inr (1, [.int 0, .int 0, .ref a1_, .ref a2_, .ref a3_, .int (-1), .long 0, .int 0, .ref a4_, .null])), (a1_, .inl (c1_, (512, .inl (fun _ => 0)))), (a2_, .inl (c2_, (512, .inr (.inl (fun _ => 0))))), (a3_, .inl (c3_, (512, .inr (.inl (fun _ => 0))))), (a4_, .inl (c4_, (513, .inr (.inl (fun _ => 0)))))] := hD
  refine lv_aload_n hx hb dX1_init_45 rfl (lv_at hl 0 rfl) ?_
  refine lv_sipush (v := 513) hx hb dX1_init_46 (by decide) ?_
  refine va_newa (atype := .long) hx hb (hts _ (List.mem_cons_of_mem _ tar_long)) rfl hK hP hD hS hA (a0 := (513, .inr (.inl (fun _ => 0)))) (N' := 513) (fun _ => rfl) (by decide) (by decide) (by decide) (Nat.le_of_ble_eq_true rfl) (Nat.le_of_ble_eq_true rfl) dX1_init_49 (fun a5_ c5_ H hK hP hD hS => ?_)
  replace hK : va_K D vwCl [(c1_, .boolean), (c2_, .long), (c3_, .long), (c4_, .long), (c5_, .long)] s := hK
  replace hP : va_P D vwCl [(h0, .inr (1, [.int 0, .int 0, .ref a1_, .ref a2_, .ref a3_, .int (-1), .long 0, .int 0, .ref a4_, .null])), (a1_, .inl (c1_, (512, .inl (fun _ => 0)))), (a2_, .inl (c2_, (512, .inr (.inl (fun _ => 0))))), (a3_, .inl (c3_, (512, .inr (.inl (fun _ => 0))))), (a4_, .inl (c4_, (513, .inr (.inl (fun _ => 0))))), (a5_, .inl (c5_, (513, .inr (.inl (fun _ => 0)))))] H := hP
  replace hD : va_D A [(h0, .inr (1, [.int 0, .int 0, .ref a1_, .ref a2_, .ref a3_, .int (-1), .long 0, .int 0, .ref a4_, .null])), (a1_, .inl (c1_, (512, .inl (fun _ => 0)))), (a2_, .inl (c2_, (512, .inr (.inl (fun _ => 0))))), (a3_, .inl (c3_, (512, .inr (.inl (fun _ => 0))))), (a4_, .inl (c4_, (513, .inr (.inl (fun _ => 0))))), (a5_, .inl (c5_, (513, .inr (.inl (fun _ => 0)))))] := hD
  refine W.widen (k := 5) (n := 2562) (by decide) (by decide) ?_
  refine va_putF (D := D) (ci := 1) (v := .ref a5_) (ty := .array .long) (C := RX1) (T := TX1) (N := 10) hx hb hts (fun w h => List.mem_cons_of_mem _ (iX1 w h)) tyX1 tyX1_ok nmX1 hown hK hP hD hS 0 rfl rfl 9 (by decide) (hts _ (List.mem_cons_of_mem _ tfl_X1_27)) (fun _ h9 => h9) rfl hname rfl (by decide +kernel) rfl rfl (Nat.le_of_ble_eq_true rfl) dX1_init_51 (fun H locs hP hD hS => ?_)
  replace hP : va_P D vwCl [(h0, .inr (1, [.int 0, .int 0, .ref a1_, .ref a2_, .ref a3_, .int (-1), .long 0, .int 0, .ref a4_, .ref a5_])), (a1_, .inl (c1_, (512, .inl (fun _ => 0)))), (a2_, .inl (c2_, (512, .inr (.inl (fun _ => 0))))), (a3_, .inl (c3_, (512, .inr (.inl (fun _ => 0))))), (a4_, .inl (c4_, (513, .inr (.inl (fun _ => 0))))), (a5_, .inl (c5_, (513, .inr (.inl (fun _ => 0)))))] H := hP
  replace hD : va_D A [(h0, .inr (1, [.int 0, .int 0, .ref a1_, .ref a2_, .ref a3_, .int (-1), .long 0, .int 0, .ref a4_, .ref a5_])), (a1_, .inl (c1_, (512, .inl (fun _ => 0)))), (a2_, .inl (c2_, (512, .inr (.inl (fun _ => 0))))), (a3_, .inl (c3_, (512, .inr (.inl (fun _ => 0))))), (a4_, .inl (c4_, (513, .inr (.inl (fun _ => 0))))), (a5_, .inl (c5_, (513, .inr (.inl (fun _ => 0)))))] := hD
  refine lv_aload_n hx hb dX1_init_54 rfl (lv_at hl 0 rfl) ?_
  refine lv_iload_n hx hb dX1_init_55 rfl (lv_at hl 1 rfl) ?_
  refine lv_bipush (v := 32) hx hb dX1_init_56 (by decide) ?_
  refine lv_icmp_eq (tgt := 67) hx hb dX1_init_58 (by decide) (fun c_1 => ?_) (fun c_1 => ?_)
  · refine lv_iload_n hx hb dX1_init_67 rfl (lv_at hl 1 rfl) ?_
    refine lv_goto (tgt := 73) hx hb dX1_init_68 (by decide) ?_
    refine va_putF (D := D) (ci := 1) (v := .int a1) (ty := .int) (C := RX1) (T := TX1) (N := 10) hx hb hts (fun w h => List.mem_cons_of_mem _ (iX1 w h)) tyX1 tyX1_ok nmX1 hown hK hP hD hS 0 rfl rfl 0 (by decide) (hts _ (List.mem_cons_of_mem _ tfl_X1_30)) (fun _ h9 => h9) rfl hname rfl (by decide +kernel) rfl rfl (Nat.le_of_ble_eq_true rfl) dX1_init_73 (fun H locs hP hD hS => ?_)
    replace hP : va_P D vwCl [(h0, .inr (1, [.int a1, .int 0, .ref a1_, .ref a2_, .ref a3_, .int (-1), .long 0, .int 0, .ref a4_, .ref a5_])), (a1_, .inl (c1_, (512, .inl (fun _ => 0)))), (a2_, .inl (c2_, (512, .inr (.inl (fun _ => 0))))), (a3_, .inl (c3_, (512, .inr (.inl (fun _ => 0))))), (a4_, .inl (c4_, (513, .inr (.inl (fun _ => 0))))), (a5_, .inl (c5_, (513, .inr (.inl (fun _ => 0)))))] H := hP
    replace hD : va_D A [(h0, .inr (1, [.int a1, .int 0, .ref a1_, .ref a2_, .ref a3_, .int (-1), .long 0, .int 0, .ref a4_, .ref a5_])), (a1_, .inl (c1_, (512, .inl (fun _ => 0)))), (a2_, .inl (c2_, (512, .inr (.inl (fun _ => 0))))), (a3_, .inl (c3_, (512, .inr (.inl (fun _ => 0))))), (a4_, .inl (c4_, (513, .inr (.inl (fun _ => 0))))), (a5_, .inl (c5_, (513, .inr (.inl (fun _ => 0)))))] := hD
    refine lv_aload_n hx hb dX1_init_76 rfl (lv_at hl 0 rfl) ?_
    refine lv_aload_n hx hb dX1_init_77 rfl (lv_at hl 0 rfl) ?_
    refine va_get (D := D) (ci := 1) (v := .int a1) (C := RX1) (T := TX1) (N := 10) hx hb hts (fun w h => List.mem_cons_of_mem _ (iX1 w h)) hown hK hP 0 rfl rfl 0 (by decide) (hts _ (List.mem_cons_of_mem _ tfl_X1_30)) (fun _ h9 => h9) rfl dX1_init_78 ?_
    refine va_put (D := D) (ci := 1) (v := .int a1) (ty := .int) (C := RX1) (T := TX1) (N := 10) hx hb hts (fun w h => List.mem_cons_of_mem _ (iX1 w h)) tyX1 tyX1_ok nmX1 hown hK hP hD hS 0 rfl rfl 1 (by decide) (hts _ (List.mem_cons_of_mem _ tfl_X1_33)) (fun _ h9 => h9) rfl (by decide +kernel) rfl rfl (Nat.le_of_ble_eq_true rfl) dX1_init_81 (fun H locs hP hD hS => ?_)
    replace hP : va_P D vwCl [(h0, .inr (1, [.int a1, .int a1, .ref a1_, .ref a2_, .ref a3_, .int (-1), .long 0, .int 0, .ref a4_, .ref a5_])), (a1_, .inl (c1_, (512, .inl (fun _ => 0)))), (a2_, .inl (c2_, (512, .inr (.inl (fun _ => 0))))), (a3_, .inl (c3_, (512, .inr (.inl (fun _ => 0))))), (a4_, .inl (c4_, (513, .inr (.inl (fun _ => 0))))), (a5_, .inl (c5_, (513, .inr (.inl (fun _ => 0)))))] H := hP
    replace hD : va_D A [(h0, .inr (1, [.int a1, .int a1, .ref a1_, .ref a2_, .ref a3_, .int (-1), .long 0, .int 0, .ref a4_, .ref a5_])), (a1_, .inl (c1_, (512, .inl (fun _ => 0)))), (a2_, .inl (c2_, (512, .inr (.inl (fun _ => 0))))), (a3_, .inl (c3_, (512, .inr (.inl (fun _ => 0))))), (a4_, .inl (c4_, (513, .inr (.inl (fun _ => 0))))), (a5_, .inl (c5_, (513, .inr (.inl (fun _ => 0)))))] := hD
    exact W.vret hx hb hr (fun t ht hW => ⟨⟨((fun k => if k = 0 then h0 else if k = 1 then a1_ else if k = 2 then a2_ else if k = 3 then a3_ else if k = 4 then a4_ else a5_), (fun k => if k = 1 then c1_ else if k = 2 then c2_ else if k = 3 then c3_ else if k = 4 then c4_ else c5_), a1), rfl, ⟨rfl, Or.inr (Or.inl ⟨c_1, c_1⟩)⟩, by rw [ht]; exact hP, va_K.moved hW.alike hK, hD⟩, hS.F ht⟩) hS.2.2 dX1_init_84
  · refine lv_iload_n hx hb dX1_init_61 rfl (lv_at hl 1 rfl) ?_
    refine lv_bipush (v := 64) hx hb dX1_init_62 (by decide) ?_
    refine lv_icmp_ne (tgt := 71) hx hb dX1_init_64 (by decide) (fun c_2 => ?_) (fun c_2 => ?_)
    · refine lv_bipush (v := 16) hx hb dX1_init_71 (by decide) ?_
      refine va_putF (D := D) (ci := 1) (v := .int 16) (ty := .int) (C := RX1) (T := TX1) (N := 10) hx hb hts (fun w h => List.mem_cons_of_mem _ (iX1 w h)) tyX1 tyX1_ok nmX1 hown hK hP hD hS 0 rfl rfl 0 (by decide) (hts _ (List.mem_cons_of_mem _ tfl_X1_30)) (fun _ h9 => h9) rfl hname rfl (by decide +kernel) rfl rfl (Nat.le_of_ble_eq_true rfl) dX1_init_73 (fun H locs hP hD hS => ?_)
      replace hP : va_P D vwCl [(h0, .inr (1, [.int 16, .int 0, .ref a1_, .ref a2_, .ref a3_, .int (-1), .long 0, .int 0, .ref a4_, .ref a5_])), (a1_, .inl (c1_, (512, .inl (fun _ => 0)))), (a2_, .inl (c2_, (512, .inr (.inl (fun _ => 0))))), (a3_, .inl (c3_, (512, .inr (.inl (fun _ => 0))))), (a4_, .inl (c4_, (513, .inr (.inl (fun _ => 0))))), (a5_, .inl (c5_, (513, .inr (.inl (fun _ => 0)))))] H := hP
      replace hD : va_D A [(h0, .inr (1, [.int 16, .int 0, .ref a1_, .ref a2_, .ref a3_, .int (-1), .long 0, .int 0, .ref a4_, .ref a5_])), (a1_, .inl (c1_, (512, .inl (fun _ => 0)))), (a2_, .inl (c2_, (512, .inr (.inl (fun _ => 0))))), (a3_, .inl (c3_, (512, .inr (.inl (fun _ => 0))))), (a4_, .inl (c4_, (513, .inr (.inl (fun _ => 0))))), (a5_, .inl (c5_, (513, .inr (.inl (fun _ => 0)))))] := hD
      refine lv_aload_n hx hb dX1_init_76 rfl (lv_at hl 0 rfl) ?_
      refine lv_aload_n hx hb dX1_init_77 rfl (lv_at hl 0 rfl) ?_
      refine va_get (D := D) (ci := 1) (v := .int 16) (C := RX1) (T := TX1) (N := 10) hx hb hts (fun w h => List.mem_cons_of_mem _ (iX1 w h)) hown hK hP 0 rfl rfl 0 (by decide) (hts _ (List.mem_cons_of_mem _ tfl_X1_30)) (fun _ h9 => h9) rfl dX1_init_78 ?_
      refine va_put (D := D) (ci := 1) (v := .int 16) (ty := .int) (C := RX1) (T := TX1) (N := 10) hx hb hts (fun w h => List.mem_cons_of_mem _ (iX1 w h)) tyX1 tyX1_ok nmX1 hown hK hP hD hS 0 rfl rfl 1 (by decide) (hts _ (List.mem_cons_of_mem _ tfl_X1_33)) (fun _ h9 => h9) rfl (by decide +kernel) rfl rfl (Nat.le_of_ble_eq_true rfl) dX1_init_81 (fun H locs hP hD hS => ?_)
      replace hP : va_P D vwCl [(h0, .inr (1, [.int 16, .int 16, .ref a1_, .ref a2_, .ref a3_, .int (-1), .long 0, .int 0, .ref a4_, .ref a5_])), (a1_, .inl (c1_, (512, .inl (fun _ => 0)))), (a2_, .inl (c2_, (512, .inr (.inl (fun _ => 0))))), (a3_, .inl (c3_, (512, .inr (.inl (fun _ => 0))))), (a4_, .inl (c4_, (513, .inr (.inl (fun _ => 0))))), (a5_, .inl (c5_, (513, .inr (.inl (fun _ => 0)))))] H := hP
      replace hD : va_D A [(h0, .inr (1, [.int 16, .int 16, .ref a1_, .ref a2_, .ref a3_, .int (-1), .long 0, .int 0, .ref a4_, .ref a5_])), (a1_, .inl (c1_, (512, .inl (fun _ => 0)))), (a2_, .inl (c2_, (512, .inr (.inl (fun _ => 0))))), (a3_, .inl (c3_, (512, .inr (.inl (fun _ => 0))))), (a4_, .inl (c4_, (513, .inr (.inl (fun _ => 0))))), (a5_, .inl (c5_, (513, .inr (.inl (fun _ => 0)))))] := hD
      exact W.vret hx hb hr (fun t ht hW => ⟨⟨((fun k => if k = 0 then h0 else if k = 1 then a1_ else if k = 2 then a2_ else if k = 3 then a3_ else if k = 4 then a4_ else a5_), (fun k => if k = 1 then c1_ else if k = 2 then c2_ else if k = 3 then c3_ else if k = 4 then c4_ else c5_), 16), rfl, ⟨rfl, Or.inr (Or.inr ⟨c_2, c_1, rfl⟩)⟩, by rw [ht]; exact hP, va_K.moved hW.alike hK, hD⟩, hS.F ht⟩) hS.2.2 dX1_init_84
    · refine lv_iload_n hx hb dX1_init_67 rfl (lv_at hl 1 rfl) ?_
      refine lv_goto (tgt := 73) hx hb dX1_init_68 (by decide) ?_
      refine va_putF (D := D) (ci := 1) (v := .int a1) (ty := .int) (C := RX1) (T := TX1) (N := 10) hx hb hts (fun w h => List.mem_cons_of_mem _ (iX1 w h)) tyX1 tyX1_ok nmX1 hown hK hP hD hS 0 rfl rfl 0 (by decide) (hts _ (List.mem_cons_of_mem _ tfl_X1_30)) (fun _ h9 => h9) rfl hname rfl (by decide +kernel) rfl rfl (Nat.le_of_ble_eq_true rfl) dX1_init_73 (fun H locs hP hD hS => ?_)
      replace hP : va_P D vwCl [(h0, .inr (1, [.int a1, .int 0, .ref a1_, .ref a2_, .ref a3_, .int (-1), .long 0, .int 0, .ref a4_, .ref a5_])), (a1_, .inl (c1_, (512, .inl (fun _ => 0)))), (a2_, .inl (c2_, (512, .inr (.inl (fun _ => 0))))), (a3_, .inl (c3_, (512, .inr (.inl (fun _ => 0))))), (a4_, .inl (c4_, (513, .inr (.inl (fun _ => 0))))), (a5_, .inl (c5_, (513, .inr (.inl (fun _ => 0)))))] H := hP
      replace hD : va_D A [(h0, .inr (1, [.int a1, .int 0, .ref a1_, .ref a2_, .ref a3_, .int (-1), .long 0, .int 0, .ref a4_, .ref a5_])), (a1_, .inl (c1_, (512, .inl (fun _ => 0)))), (a2_, .inl (c2_, (512, .inr (.inl (fun _ => 0))))), (a3_, .inl (c3_, (512, .inr (.inl (fun _ => 0))))), (a4_, .inl (c4_, (513, .inr (.inl (fun _ => 0))))), (a5_, .inl (c5_, (513, .inr (.inl (fun _ => 0)))))] := hD
      refine lv_aload_n hx hb dX1_init_76 rfl (lv_at hl 0 rfl) ?_
      refine lv_aload_n hx hb dX1_init_77 rfl (lv_at hl 0 rfl) ?_
      refine va_get (D := D) (ci := 1) (v := .int a1) (C := RX1) (T := TX1) (N := 10) hx hb hts (fun w h => List.mem_cons_of_mem _ (iX1 w h)) hown hK hP 0 rfl rfl 0 (by decide) (hts _ (List.mem_cons_of_mem _ tfl_X1_30)) (fun _ h9 => h9) rfl dX1_init_78 ?_
      refine va_put (D := D) (ci := 1) (v := .int a1) (ty := .int) (C := RX1) (T := TX1) (N := 10) hx hb hts (fun w h => List.mem_cons_of_mem _ (iX1 w h)) tyX1 tyX1_ok nmX1 hown hK hP hD hS 0 rfl rfl 1 (by decide) (hts _ (List.mem_cons_of_mem _ tfl_X1_33)) (fun _ h9 => h9) rfl (by decide +kernel) rfl rfl (Nat.le_of_ble_eq_true rfl) dX1_init_81 (fun H locs hP hD hS => ?_)
      replace hP : va_P D vwCl [(h0, .inr (1, [.int a1, .int a1, .ref a1_, .ref a2_, .ref a3_, .int (-1), .long 0, .int 0, .ref a4_, .ref a5_])), (a1_, .inl (c1_, (512, .inl (fun _ => 0)))), (a2_, .inl (c2_, (512, .inr (.inl (fun _ => 0))))), (a3_, .inl (c3_, (512, .inr (.inl (fun _ => 0))))), (a4_, .inl (c4_, (513, .inr (.inl (fun _ => 0))))), (a5_, .inl (c5_, (513, .inr (.inl (fun _ => 0)))))] H := hP
      replace hD : va_D A [(h0, .inr (1, [.int a1, .int a1, .ref a1_, .ref a2_, .ref a3_, .int (-1), .long 0, .int 0, .ref a4_, .ref a5_])), (a1_, .inl (c1_, (512, .inl (fun _ => 0)))), (a2_, .inl (c2_, (512, .inr (.inl (fun _ => 0))))), (a3_, .inl (c3_, (512, .inr (.inl (fun _ => 0))))), (a4_, .inl (c4_, (513, .inr (.inl (fun _ => 0))))), (a5_, .inl (c5_, (513, .inr (.inl (fun _ => 0)))))] := hD
      exact W.vret hx hb hr (fun t ht hW => ⟨⟨((fun k => if k = 0 then h0 else if k = 1 then a1_ else if k = 2 then a2_ else if k = 3 then a3_ else if k = 4 then a4_ else a5_), (fun k => if k = 1 then c1_ else if k = 2 then c2_ else if k = 3 then c3_ else if k = 4 then c4_ else c5_), a1), rfl, ⟨rfl, Or.inl ⟨c_2, c_2⟩⟩, by rw [ht]; exact hP, va_K.moved hW.alike hK, hD⟩, hS.F ht⟩) hS.2.2 dX1_init_84
