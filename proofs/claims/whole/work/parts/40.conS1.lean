set_option maxHeartbeats 4000000 in
set_option maxRecDepth 100000 in
theorem c_S_segments (l : Launch) (D : va_G) (g : Nat → Nat) (q : Nat → ClassId) (kS : Nat → Int64) (vS : Nat → Int64) (bS : Nat → Int32) (llS : Int32) (lvS : Int32) (lhS : Int32) (mvS : Int64) (post : Int32 → Prop) (hw : wp_S_segments lvS post) (sz : Nat) : Met l yX0_segments wsX0_segments ({ frames := 0, cells := 0, slots := 0, locals := 0 }) (qP D vwCl (tS q) (wS g q kS vS bS llS lvS lhS mvS) sz [.ref (g 0)]) (va_Qi (fun r (_ : Unit) => post r) (qB D vwCl (tS q) (fun _ : Unit => (wS g q kS vS bS llS lvS lhS mvS)) (va_A (wS g q kS vS bS llS lvS lhS mvS) sz)) (va_A (wS g q kS vS bS llS lvS lhS mvS) sz)) 0 0 (va_A (wS g q kS vS bS llS lvS lhS mvS) sz) := by
  refine q_enter (cc := cX0_segments) (maxL := 1) (ret := (some .int)) (fun A => va_Qi (fun r (_ : Unit) => post r) (qB D vwCl (tS q) (fun _ : Unit => (wS g q kS vS bS llS lvS lhS mvS)) A) A) (by decide +kernel) rfl (Nat.le_of_ble_eq_true rfl) ?_
  intro p e s m below meth c A ls hx hb hr hml hown hts hlocks hname hP hK hD hA hl
  replace hown : s.vm.findClass RX0 = some m.cls := hown
  replace hl : lv_has ls 1 [(0, .ref (g 0))] := hl
  have hS : va_S A s.heap s.heap [] := va_S.rf
  have hf_levels := hts _ (List.mem_cons_of_mem _ tfl_X0_32)
  unfold wp_S_segments at hw
  refine lv_iconst (v := 1) hx hb dX0_segments_0 (by decide) ?_
  refine lv_aload_n hx hb dX0_segments_1 rfl (lv_at hl 0 rfl) ?_
  refine va_get (D := D) (ci := 0) (v := .int lvS) (C := RX0) (T := TX0) (N := 7) hx hb hts (fun w h => List.mem_cons_of_mem _ (iX0 w h)) hown hK hP 0 rfl rfl 4 (by decide) hf_levels (fun _ h9 => h9) rfl dX0_segments_2 ?_
  refine lv_ishl hx hb dX0_segments_5 ?_
  exact q_iret () hx hb hr hlocks hK dX0_segments_6 hS hP hD hw
set_option maxHeartbeats 4000000 in
set_option maxRecDepth 100000 in
theorem c_S_depthOf (l : Launch) (D : va_G) (a0 : Int32) (post : Int32 → Prop) (hw : wp_S_depthOf a0 post) (sz : Nat) : Met l yX0_depthOf wsX0_depthOf ({ frames := 0, cells := 0, slots := 0, locals := 0 }) (qP D vwCl [] [] sz [.int a0]) (va_Qi (fun r (_ : Unit) => post r) (qB D vwCl [] (fun _ : Unit => []) (va_A [] sz)) (va_A [] sz)) 0 0 (va_A [] sz) := by
  refine q_enter (cc := cX0_depthOf) (maxL := 3) (ret := (some .int)) (fun A => va_Qi (fun r (_ : Unit) => post r) (qB D vwCl [] (fun _ : Unit => []) A) A) (by decide +kernel) rfl (Nat.le_of_ble_eq_true rfl) ?_
  intro p e s m below meth c A ls hx hb hr hml hown hts hlocks hname hP hK hD hA hl
  replace hown : s.vm.findClass RX0 = some m.cls := hown
  replace hl : lv_has ls 3 [(0, .int a0)] := hl
  have hS : va_S A s.heap s.heap [] := va_S.rf
  have L6 : ∀ (n : Nat) (x1 : Int32) (x2 : Int32), wp_S_depthOf_L6 post n x1 x2 → ∀ (H : Heap) (locs : List Loc) (ls : Array Slot), va_P D vwCl [] H → va_D A [] → va_S A s.heap H locs → lv_has ls 3 [(1, .int x1), (2, .int x2)] → W p l e { frames := 0, cells := 0, slots := 0, locals := 0 } s m ([.int a0] : List Value).toArray below meth c H locs 0 0 (MQ below (va_Qi (fun r (_ : Unit) => post r) (qB D vwCl [] (fun _ : Unit => []) A) A) ([.int a0] : List Value).toArray s 0 0 A) (F0 m 6 ls []) := by
    intro n
    induction n with
    | zero => intro x1 x2 hw; exact False.elim (show False from hw)
    | succ n ih =>
      intro x1 x2 hw H locs ls hP hD hS hl
      rw [wp_S_depthOf_L6] at hw
      refine lv_iload_n hx hb dX0_depthOf_6 rfl (lv_at hl 1 rfl) ?_
      refine lv_iconst (v := 1) hx hb dX0_depthOf_7 (by decide) ?_
      refine lv_icmp_lt (tgt := 21) hx hb dX0_depthOf_8 (by decide) (fun c_1 => ?_) (fun c_1 => ?_)
      · replace hw := hw.1 c_1
        refine lv_iload_n hx hb dX0_depthOf_21 rfl (lv_at hl 0 rfl) ?_
        exact q_iret () hx hb hr hlocks hK dX0_depthOf_22 hS hP hD hw
      · replace hw := hw.2 c_1
        refine lv_iinc (v := (x1 + 1)) (lv' := [(1, .int (x1 + 1)), (2, .int x2)]) hx hb dX0_depthOf_11 hl (k := 0) rfl rfl (by decide) rfl (fun ls hl => ?_)
        refine lv_iload_n hx hb dX0_depthOf_14 rfl (lv_at hl 1 rfl) ?_
        refine lv_iconst (v := 2) hx hb dX0_depthOf_15 (by decide) ?_
        refine lv_idiv hx hb dX0_depthOf_16 (by decide) ?_
        refine lv_istore_n (lv' := [(2, .int (x2 / 2)), (1, .int (x1 + 1))]) hx hb dX0_depthOf_17 rfl hl (by decide) rfl (fun ls hl => ?_)
        refine lv_goto (tgt := 6) hx hb dX0_depthOf_18 (by decide) ?_
        exact ih (x1 + 1) (x2 / 2) hw _ _ ls hP hD hS (lv_sub hl [1, 0] rfl)
  unfold wp_S_depthOf at hw
  refine lv_iconst (v := 0) hx hb dX0_depthOf_0 (by decide) ?_
  refine lv_istore_n (lv' := [(1, .int 0), (0, .int a0)]) hx hb dX0_depthOf_1 rfl hl (by decide) rfl (fun ls hl => ?_)
  refine lv_iload_n hx hb dX0_depthOf_2 rfl (lv_at hl 1 rfl) ?_
  refine lv_iconst (v := 2) hx hb dX0_depthOf_3 (by decide) ?_
  refine lv_idiv hx hb dX0_depthOf_4 (by decide) ?_
  refine lv_istore_n (lv' := [(2, .int (a0 / 2)), (1, .int 0), (0, .int a0)]) hx hb dX0_depthOf_5 rfl hl (by decide) rfl (fun ls hl => ?_)
  obtain ⟨n0, hw⟩ := hw
  exact L6  n0 0 (a0 / 2) hw _ _ ls hP hD hS (lv_sub hl [1, 0] rfl)
set_option maxHeartbeats 4000000 in
set_option maxRecDepth 100000 in
theorem c_S_windowCells (l : Launch) (D : va_G) (a0 : Int32) (post : Int32 → Prop) (hw : wp_S_windowCells a0 post) (sz : Nat) : Met l yX0_windowCells wsX0_windowCells ({ frames := 0, cells := 0, slots := 0, locals := 0 }) (qP D vwCl [] [] sz [.int a0]) (va_Qi (fun r (_ : Unit) => post r) (qB D vwCl [] (fun _ : Unit => []) (va_A [] sz)) (va_A [] sz)) 0 0 (va_A [] sz) := by
  refine q_enter (cc := cX0_windowCells) (maxL := 1) (ret := (some .int)) (fun A => va_Qi (fun r (_ : Unit) => post r) (qB D vwCl [] (fun _ : Unit => []) A) A) (by decide +kernel) rfl (Nat.le_of_ble_eq_true rfl) ?_
  intro p e s m below meth c A ls hx hb hr hml hown hts hlocks hname hP hK hD hA hl
  replace hown : s.vm.findClass RX0 = some m.cls := hown
  replace hl : lv_has ls 1 [(0, .int a0)] := hl
  have hS : va_S A s.heap s.heap [] := va_S.rf
  unfold wp_S_windowCells at hw
  refine lv_bipush (v := 8) hx hb dX0_windowCells_0 (by decide) ?_
  refine lv_iload_n hx hb dX0_windowCells_2 rfl (lv_at hl 0 rfl) ?_
  refine lv_ishl hx hb dX0_windowCells_3 ?_
  exact q_iret () hx hb hr hlocks hK dX0_windowCells_4 hS hP hD hw
set_option maxHeartbeats 4000000 in
set_option maxRecDepth 100000 in
theorem c_S_greatestKey (l : Launch) (D : va_G) (g : Nat → Nat) (q : Nat → ClassId) (kS : Nat → Int64) (vS : Nat → Int64) (bS : Nat → Int32) (llS : Int32) (lvS : Int32) (lhS : Int32) (mvS : Int64) (a1 : Int32) (a2 : Int32) (post : Int64 → Prop) (hw : wp_S_greatestKey kS a1 a2 post) (sz : Nat) : Met l yX0_greatestKey wsX0_greatestKey ({ frames := 0, cells := 0, slots := 0, locals := 0 }) (qP D vwCl (tS q) (wS g q kS vS bS llS lvS lhS mvS) sz [.ref (g 0), .int a1, .int a2]) (va_Ql (fun r (_ : Unit) => post r) (qB D vwCl (tS q) (fun _ : Unit => (wS g q kS vS bS llS lvS lhS mvS)) (va_A (wS g q kS vS bS llS lvS lhS mvS) sz)) (va_A (wS g q kS vS bS llS lvS lhS mvS) sz)) 0 0 (va_A (wS g q kS vS bS llS lvS lhS mvS) sz) := by
  refine q_enter (cc := cX0_greatestKey) (maxL := 4) (ret := (some .long)) (fun A => va_Ql (fun r (_ : Unit) => post r) (qB D vwCl (tS q) (fun _ : Unit => (wS g q kS vS bS llS lvS lhS mvS)) A) A) (by decide +kernel) rfl (Nat.le_of_ble_eq_true rfl) ?_
  intro p e s m below meth c A ls hx hb hr hml hown hts hlocks hname hP hK hD hA hl
  replace hown : s.vm.findClass RX0 = some m.cls := hown
  replace hl : lv_has ls 4 [(0, .ref (g 0)), (1, .int a1), (2, .int a2)] := hl
  have hS : va_S A s.heap s.heap [] := va_S.rf
  have hf_keys := hts _ (List.mem_cons_of_mem _ tfl_X0_9)
  have L6 : ∀ (x1 : Int32) (n : Nat) (x3 : Int32), wp_S_greatestKey_L6 kS x1 post n x3 → ∀ (H : Heap) (locs : List Loc) (ls : Array Slot), va_P D vwCl (wS g q kS vS bS llS lvS lhS mvS) H → va_D A (wS g q kS vS bS llS lvS lhS mvS) → va_S A s.heap H locs → lv_has ls 4 [(0, .ref (g 0)), (1, .int x1), (3, .int x3)] → W p l e { frames := 0, cells := 0, slots := 0, locals := 0 } s m ([.ref (g 0), .int a1, .int a2] : List Value).toArray below meth c H locs 0 0 (MQ below (va_Ql (fun r (_ : Unit) => post r) (qB D vwCl (tS q) (fun _ : Unit => (wS g q kS vS bS llS lvS lhS mvS)) A) A) ([.ref (g 0), .int a1, .int a2] : List Value).toArray s 0 0 A) (F0 m 6 ls []) := by
    intro x1 n
    induction n with
    | zero => intro x3 hw; exact False.elim (show False from hw)
    | succ n ih =>
      intro x3 hw H locs ls hP hD hS hl
      rw [wp_S_greatestKey_L6] at hw
      refine lv_iload_n hx hb dX0_greatestKey_6 rfl (lv_at hl 2 rfl) ?_
      refine lv_iload_n hx hb dX0_greatestKey_7 rfl (lv_at hl 1 rfl) ?_
      refine lv_icmp_lt (tgt := 37) hx hb dX0_greatestKey_8 (by decide) (fun c_1 => ?_) (fun c_1 => ?_)
      · replace hw := hw.1 c_1
        refine lv_ldc2 (v := NOK) hx hb hown (hts _ (List.mem_cons_of_mem _ tcn_X0_13)) dX0_greatestKey_37 ?_
        exact q_lret () hx hb hr hlocks hK dX0_greatestKey_40 hS hP hD hw
      · replace hw := hw.2 c_1
        refine lv_aload_n hx hb dX0_greatestKey_11 rfl (lv_at hl 0 rfl) ?_
        refine va_get (D := D) (ci := 0) (v := .ref (g 1)) (C := RX0) (T := TX0) (N := 7) hx hb hts (fun w h => List.mem_cons_of_mem _ (iX0 w h)) hown hK hP 0 rfl rfl 0 (by decide) hf_keys (fun _ h9 => h9) rfl dX0_greatestKey_12 ?_
        refine lv_iload_n hx hb dX0_greatestKey_15 rfl (lv_at hl 2 rfl) ?_
        obtain ⟨hi_2, hw⟩ := hw
        refine va_lald hx hb hK hP 1 0 rfl rfl hi_2 dX0_greatestKey_16 ?_
        refine lv_ldc2 (v := NOK) hx hb hown (hts _ (List.mem_cons_of_mem _ tcn_X0_13)) dX0_greatestKey_17 ?_
        refine q_lc_eq (tgt := 31) hx hb dX0_greatestKey_20 dX0_greatestKey_21 (by decide) (fun c_3 => ?_) (fun c_3 => ?_)
        · replace hw := hw.1 c_3
          refine lv_iinc (v := (x3 + (-1))) (lv' := [(3, .int (x3 + (-1))), (0, .ref (g 0)), (1, .int x1)]) hx hb dX0_greatestKey_31 hl (k := 2) rfl rfl (by decide) rfl (fun ls hl => ?_)
          refine lv_goto (tgt := 6) hx hb dX0_greatestKey_34 (by decide) ?_
          exact ih (x3 + (-1)) hw _ _ ls hP hD hS (lv_sub hl [1, 2, 0] rfl)
        · replace hw := hw.2 c_3
          refine lv_aload_n hx hb dX0_greatestKey_24 rfl (lv_at hl 0 rfl) ?_
          refine va_get (D := D) (ci := 0) (v := .ref (g 1)) (C := RX0) (T := TX0) (N := 7) hx hb hts (fun w h => List.mem_cons_of_mem _ (iX0 w h)) hown hK hP 0 rfl rfl 0 (by decide) hf_keys (fun _ h9 => h9) rfl dX0_greatestKey_25 ?_
          refine lv_iload_n hx hb dX0_greatestKey_28 rfl (lv_at hl 2 rfl) ?_
          refine va_lald hx hb hK hP 1 0 rfl rfl hi_2 dX0_greatestKey_29 ?_
          exact q_lret () hx hb hr hlocks hK dX0_greatestKey_30 hS hP hD hw
  unfold wp_S_greatestKey at hw
  refine lv_iload_n hx hb dX0_greatestKey_0 rfl (lv_at hl 1 rfl) ?_
  refine lv_iload_n hx hb dX0_greatestKey_1 rfl (lv_at hl 2 rfl) ?_
  refine lv_iadd hx hb dX0_greatestKey_2 ?_
  refine lv_iconst (v := 1) hx hb dX0_greatestKey_3 (by decide) ?_
  refine lv_isub hx hb dX0_greatestKey_4 ?_
  refine lv_istore_n (lv' := [(3, .int ((a1 + a2) - 1)), (0, .ref (g 0)), (1, .int a1), (2, .int a2)]) hx hb dX0_greatestKey_5 rfl hl (by decide) rfl (fun ls hl => ?_)
  obtain ⟨n0, hw⟩ := hw
  exact L6 a1 n0 ((a1 + a2) - 1) hw _ _ ls hP hD hS (lv_sub hl [1, 2, 0] rfl)
set_option maxHeartbeats 4000000 in
set_option maxRecDepth 100000 in
theorem c_S_borneBy (l : Launch) (D : va_G) (g : Nat → Nat) (q : Nat → ClassId) (kS : Nat → Int64) (vS : Nat → Int64) (bS : Nat → Int32) (llS : Int32) (lvS : Int32) (lhS : Int32) (mvS : Int64) (a1 : Int32) (post : Int64 → Prop) (hw : wp_S_borneBy kS lvS a1 post) (sz : Nat) : Met l yX0_borneBy wsX0_borneBy ({ frames := 1, cells := 0, slots := 0, locals := 23 }) (qP D vwCl (tS q) (wS g q kS vS bS llS lvS lhS mvS) sz [.ref (g 0), .int a1]) (va_Ql (fun r (_ : Unit) => post r) (qB D vwCl (tS q) (fun _ : Unit => (wS g q kS vS bS llS lvS lhS mvS)) (va_A (wS g q kS vS bS llS lvS lhS mvS) sz)) (va_A (wS g q kS vS bS llS lvS lhS mvS) sz)) 0 0 (va_A (wS g q kS vS bS llS lvS lhS mvS) sz) := by
  refine q_enter (cc := cX0_borneBy) (maxL := 4) (ret := (some .long)) (fun A => va_Ql (fun r (_ : Unit) => post r) (qB D vwCl (tS q) (fun _ : Unit => (wS g q kS vS bS llS lvS lhS mvS)) A) A) (by decide +kernel) rfl (Nat.le_of_ble_eq_true rfl) ?_
  intro p e s m below meth c A ls hx hb hr hml hown hts hlocks hname hP hK hD hA hl
  replace hown : s.vm.findClass RX0 = some m.cls := hown
  replace hl : lv_has ls 4 [(0, .ref (g 0)), (1, .int a1)] := hl
  have hS : va_S A s.heap s.heap [] := va_S.rf
  have hf_levels := hts _ (List.mem_cons_of_mem _ tfl_X0_32)
  unfold wp_S_borneBy at hw
  refine lv_aload_n hx hb dX0_borneBy_0 rfl (lv_at hl 0 rfl) ?_
  refine va_get (D := D) (ci := 0) (v := .int lvS) (C := RX0) (T := TX0) (N := 7) hx hb hts (fun w h => List.mem_cons_of_mem _ (iX0 w h)) hown hK hP 0 rfl rfl 4 (by decide) hf_levels (fun _ h9 => h9) rfl dX0_borneBy_1 ?_
  refine lv_iload_n hx hb dX0_borneBy_4 rfl (lv_at hl 1 rfl) ?_
  refine q_callSi (As := [.int a1]) (rest := [.int lvS]) (wr := (wS g q kS vS bS llS lvS lhS mvS)) [] [0, 1, 2, 3] ⟨hx, hb, hml, hown, hts⟩ (c_S_depthOf l D a1 _ hw _) (va_cwS 1 hts gX0_borneBy_X0_depthOf rfl rfl rfl (by decide +kernel) ⟨Nat.le_of_ble_eq_true rfl, Nat.le_of_ble_eq_true rfl⟩) (hK.sub (tys' := []) [] rfl) hP hD hS hA rfl rfl rfl (by decide) (by decide) (by decide) rfl hl.1 rfl (Nat.le_of_ble_eq_true rfl) dX0_borneBy_5 ⟨Nat.zero_le _, Nat.zero_le _⟩ (fun r_1 u H locs hw hP hD hS => ?_)
  try dsimp only at hw
  replace hP : va_P D vwCl (wS g q kS vS bS llS lvS lhS mvS) H := hP
  replace hD : va_D A (wS g q kS vS bS llS lvS lhS mvS) := hD
  refine lv_isub hx hb dX0_borneBy_8 ?_
  refine lv_iconst (v := 1) hx hb dX0_borneBy_9 (by decide) ?_
  refine lv_isub hx hb dX0_borneBy_10 ?_
  refine lv_istore_n (lv' := [(2, .int ((lvS - r_1) - 1)), (0, .ref (g 0)), (1, .int a1)]) hx hb dX0_borneBy_11 rfl hl (by decide) rfl (fun ls hl => ?_)
  refine lv_iconst (v := 2) hx hb dX0_borneBy_12 (by decide) ?_
  refine lv_iload_n hx hb dX0_borneBy_13 rfl (lv_at hl 2 rfl) ?_
  refine lv_imul hx hb dX0_borneBy_14 ?_
  refine lv_iload_n hx hb dX0_borneBy_15 rfl (lv_at hl 0 rfl) ?_
  refine lv_ishl hx hb dX0_borneBy_16 ?_
  refine lv_aload_n hx hb dX0_borneBy_17 rfl (lv_at hl 1 rfl) ?_
  refine q_callVi (As := []) (rest := [.int ((2 * a1) <<< (((lvS - r_1) - 1) &&& 31))]) (wr := []) [0, 1, 2, 3] [] ⟨hx, hb, hml, hown, hts⟩ (c_S_segments l D g q kS vS bS llS lvS lhS mvS  _ hw _) (cwV 0 hts gX0_borneBy_X0_segments rfl rfl rfl (by decide +kernel) ⟨Nat.le_of_ble_eq_true rfl, Nat.le_of_ble_eq_true rfl⟩) (va_recv hK hP (ci := 0) (q0 := 0) rfl rfl) hK hP hD hS hA rfl rfl rfl (by decide) (by decide) (by decide) rfl hl.1 rfl (Nat.le_of_ble_eq_true rfl) dX0_borneBy_18 ⟨Nat.zero_le _, Nat.zero_le _⟩ (fun r_2 u H locs hw hP hD hS => ?_)
  try dsimp only at hw
  replace hP : va_P D vwCl (wS g q kS vS bS llS lvS lhS mvS) H := hP
  replace hD : va_D A (wS g q kS vS bS llS lvS lhS mvS) := hD
  refine lv_isub hx hb dX0_borneBy_21 ?_
  refine lv_istore_n (lv' := [(3, .int (((2 * a1) <<< (((lvS - r_1) - 1) &&& 31)) - r_2)), (2, .int ((lvS - r_1) - 1)), (0, .ref (g 0)), (1, .int a1)]) hx hb dX0_borneBy_22 rfl hl (by decide) rfl (fun ls hl => ?_)
  refine lv_aload_n hx hb dX0_borneBy_23 rfl (lv_at hl 2 rfl) ?_
  refine lv_iload_n hx hb dX0_borneBy_24 rfl (lv_at hl 0 rfl) ?_
  refine lv_bipush (v := 8) hx hb dX0_borneBy_25 (by decide) ?_
  refine lv_imul hx hb dX0_borneBy_27 ?_
  refine lv_iload_n hx hb dX0_borneBy_28 rfl (lv_at hl 1 rfl) ?_
  refine q_callSi (As := [.int ((lvS - r_1) - 1)]) (rest := [.int ((((2 * a1) <<< (((lvS - r_1) - 1) &&& 31)) - r_2) * 8), .ref (g 0)]) (wr := (wS g q kS vS bS llS lvS lhS mvS)) [] [0, 1, 2, 3] ⟨hx, hb, hml, hown, hts⟩ (c_S_windowCells l D ((lvS - r_1) - 1) _ hw _) (va_cwS 1 hts gX0_borneBy_X0_windowCells rfl rfl rfl (by decide +kernel) ⟨Nat.le_of_ble_eq_true rfl, Nat.le_of_ble_eq_true rfl⟩) (hK.sub (tys' := []) [] rfl) hP hD hS hA rfl rfl rfl (by decide) (by decide) (by decide) rfl hl.1 rfl (Nat.le_of_ble_eq_true rfl) dX0_borneBy_29 ⟨Nat.zero_le _, Nat.zero_le _⟩ (fun r_3 u H locs hw hP hD hS => ?_)
  try dsimp only at hw
  replace hP : va_P D vwCl (wS g q kS vS bS llS lvS lhS mvS) H := hP
  replace hD : va_D A (wS g q kS vS bS llS lvS lhS mvS) := hD
  refine q_callVl (As := [.int ((((2 * a1) <<< (((lvS - r_1) - 1) &&& 31)) - r_2) * 8), .int r_3]) (rest := []) (wr := []) [0, 1, 2, 3] [] ⟨hx, hb, hml, hown, hts⟩ (c_S_greatestKey l D g q kS vS bS llS lvS lhS mvS ((((2 * a1) <<< (((lvS - r_1) - 1) &&& 31)) - r_2) * 8) r_3 _ hw _) (cwV 2 hts gX0_borneBy_X0_greatestKey rfl rfl rfl (by decide +kernel) ⟨Nat.le_of_ble_eq_true rfl, Nat.le_of_ble_eq_true rfl⟩) (va_recv hK hP (ci := 0) (q0 := 0) rfl rfl) hK hP hD hS hA rfl rfl rfl (by decide) (by decide) (by decide) rfl hl.1 rfl (Nat.le_of_ble_eq_true rfl) dX0_borneBy_32 ⟨Nat.zero_le _, Nat.zero_le _⟩ (fun r_4 u H locs hw hP hD hS => ?_)
  try dsimp only at hw
  replace hP : va_P D vwCl (wS g q kS vS bS llS lvS lhS mvS) H := hP
  replace hD : va_D A (wS g q kS vS bS llS lvS lhS mvS) := hD
  exact q_lret () hx hb hr hlocks hK dX0_borneBy_35 hS hP hD hw
set_option maxHeartbeats 4000000 in
set_option maxRecDepth 100000 in
theorem c_S_seek (l : Launch) (D : va_G) (g : Nat → Nat) (q : Nat → ClassId) (kS : Nat → Int64) (vS : Nat → Int64) (bS : Nat → Int32) (llS : Int32) (lvS : Int32) (lhS : Int32) (mvS : Int64) (a1 : Int64) (post : Int32 → Prop) (hw : wp_S_seek kS lvS a1 post) (sz : Nat) : Met l yX0_seek wsX0_seek ({ frames := 2, cells := 0, slots := 0, locals := 46 }) (qP D vwCl (tS q) (wS g q kS vS bS llS lvS lhS mvS) sz [.ref (g 0), .long a1]) (va_Qi (fun r (_ : Unit) => post r) (qB D vwCl (tS q) (fun _ : Unit => (wS g q kS vS bS llS lvS lhS mvS)) (va_A (wS g q kS vS bS llS lvS lhS mvS) sz)) (va_A (wS g q kS vS bS llS lvS lhS mvS) sz)) 0 0 (va_A (wS g q kS vS bS llS lvS lhS mvS) sz) := by
  refine q_enter (cc := cX0_seek) (maxL := 8) (ret := (some .int)) (fun A => va_Qi (fun r (_ : Unit) => post r) (qB D vwCl (tS q) (fun _ : Unit => (wS g q kS vS bS llS lvS lhS mvS)) A) A) (by decide +kernel) rfl (Nat.le_of_ble_eq_true rfl) ?_
  intro p e s m below meth c A ls hx hb hr hml hown hts hlocks hname hP hK hD hA hl
  replace hown : s.vm.findClass RX0 = some m.cls := hown
  replace hl : lv_has ls 8 [(0, .ref (g 0)), (1, .long a1)] := hl
  have hS : va_S A s.heap s.heap [] := va_S.rf
  have hf_levels := hts _ (List.mem_cons_of_mem _ tfl_X0_32)
  have L5 : ∀ (x1 : Int64) (n : Nat) (x3 : Int32) (x4 : Int32), wp_S_seek_L5 kS lvS x1 post n x3 x4 → ∀ (H : Heap) (locs : List Loc) (ls : Array Slot), va_P D vwCl (wS g q kS vS bS llS lvS lhS mvS) H → va_D A (wS g q kS vS bS llS lvS lhS mvS) → va_S A s.heap H locs → lv_has ls 8 [(0, .ref (g 0)), (1, .long x1), (3, .int x3), (4, .int x4)] → W p l e { frames := 2, cells := 0, slots := 0, locals := 46 } s m ([.ref (g 0), .long a1] : List Value).toArray below meth c H locs 0 0 (MQ below (va_Qi (fun r (_ : Unit) => post r) (qB D vwCl (tS q) (fun _ : Unit => (wS g q kS vS bS llS lvS lhS mvS)) A) A) ([.ref (g 0), .long a1] : List Value).toArray s 0 0 A) (F0 m 5 ls []) := by
    intro x1 n
    induction n with
    | zero => intro x3 x4 hw; exact False.elim (show False from hw)
    | succ n ih =>
      intro x3 x4 hw H locs ls hP hD hS hl
      rw [wp_S_seek_L5] at hw
      refine lv_iload hx hb dX0_seek_5 (lv_at hl 3 rfl) ?_
      refine lv_aload_n hx hb dX0_seek_7 rfl (lv_at hl 0 rfl) ?_
      refine va_get (D := D) (ci := 0) (v := .int lvS) (C := RX0) (T := TX0) (N := 7) hx hb hts (fun w h => List.mem_cons_of_mem _ (iX0 w h)) hown hK hP 0 rfl rfl 4 (by decide) hf_levels (fun _ h9 => h9) rfl dX0_seek_8 ?_
      refine lv_icmp_ge (tgt := 67) hx hb dX0_seek_11 (by decide) (fun c_1 => ?_) (fun c_1 => ?_)
      · replace hw := hw.1 c_1
        refine lv_iload_n hx hb dX0_seek_67 rfl (lv_at hl 2 rfl) ?_
        refine lv_aload_n hx hb dX0_seek_68 rfl (lv_at hl 0 rfl) ?_
        refine q_callVi (As := []) (rest := [.int x3]) (wr := []) [0, 1, 2, 3] [] ⟨hx, hb, hml, hown, hts⟩ (c_S_segments l D g q kS vS bS llS lvS lhS mvS  _ hw _) (cwV 0 hts gX0_seek_X0_segments rfl rfl rfl (by decide +kernel) ⟨Nat.le_of_ble_eq_true rfl, Nat.le_of_ble_eq_true rfl⟩) (va_recv hK hP (ci := 0) (q0 := 0) rfl rfl) hK hP hD hS hA rfl rfl rfl (by decide) (by decide) (by decide) rfl hl.1 rfl (Nat.le_of_ble_eq_true rfl) dX0_seek_69 ⟨Nat.zero_le _, Nat.zero_le _⟩ (fun r_2 u H locs hw hP hD hS => ?_)
        try dsimp only at hw
        replace hP : va_P D vwCl (wS g q kS vS bS llS lvS lhS mvS) H := hP
        replace hD : va_D A (wS g q kS vS bS llS lvS lhS mvS) := hD
        refine lv_isub hx hb dX0_seek_72 ?_
        exact q_iret () hx hb hr hlocks hK dX0_seek_73 hS hP hD hw
      · replace hw := hw.2 c_1
        refine lv_aload_n hx hb dX0_seek_14 rfl (lv_at hl 0 rfl) ?_
        refine lv_iload_n hx hb dX0_seek_15 rfl (lv_at hl 2 rfl) ?_
        refine q_callVl (As := [.int x3]) (rest := []) (wr := []) [0, 1, 2, 3] [] ⟨hx, hb, hml, hown, hts⟩ (c_S_borneBy l D g q kS vS bS llS lvS lhS mvS x3 _ hw _) (cwV 1 hts gX0_seek_X0_borneBy rfl rfl rfl (by decide +kernel) ⟨Nat.le_of_ble_eq_true rfl, Nat.le_of_ble_eq_true rfl⟩) (va_recv hK hP (ci := 0) (q0 := 0) rfl rfl) hK hP hD hS hA rfl rfl rfl (by decide) (by decide) (by decide) rfl hl.1 rfl (Nat.le_of_ble_eq_true rfl) dX0_seek_16 ⟨Nat.zero_le _, Nat.zero_le _⟩ (fun r_3 u H locs hw hP hD hS => ?_)
        try dsimp only at hw
        replace hP : va_P D vwCl (wS g q kS vS bS llS lvS lhS mvS) H := hP
        replace hD : va_D A (wS g q kS vS bS llS lvS lhS mvS) := hD
        refine lv_lstore (lv' := [(5, .long r_3), (0, .ref (g 0)), (1, .long x1), (3, .int x3), (4, .int x4)]) hx hb dX0_seek_19 hl (by decide) rfl (fun ls hl => ?_)
        refine lv_lload hx hb dX0_seek_21 (lv_at hl 0 rfl) ?_
        refine lv_ldc2 (v := NOK) hx hb hown (hts _ (List.mem_cons_of_mem _ tcn_X0_13)) dX0_seek_23 ?_
        refine q_lc_eq (tgt := 41) hx hb dX0_seek_26 dX0_seek_27 (by decide) (fun c_4 => ?_) (fun c_4 => ?_)
        · replace hw := hw.1 c_4
          refine lv_iconst (v := 0) hx hb dX0_seek_41 (by decide) ?_
          refine lv_istore (lv' := [(7, .int 0), (5, .long r_3), (0, .ref (g 0)), (1, .long x1), (3, .int x3), (4, .int x4)]) hx hb dX0_seek_42 hl (by decide) rfl (fun ls hl => ?_)
          refine lv_iload hx hb dX0_seek_44 (lv_at hl 0 rfl) ?_
          refine lv_if_eq (tgt := 55) hx hb dX0_seek_46 (by decide) (fun c_5 => ?_) (fun c_5 => ?_)
          · refine lv_iconst (v := 2) hx hb dX0_seek_55 (by decide) ?_
            refine lv_iload_n hx hb dX0_seek_56 rfl (lv_at hl 4 rfl) ?_
            refine lv_imul hx hb dX0_seek_57 ?_
            refine lv_iconst (v := 1) hx hb dX0_seek_58 (by decide) ?_
            refine lv_iadd hx hb dX0_seek_59 ?_
            refine lv_istore_n (lv' := [(3, .int ((2 * x3) + 1)), (7, .int 0), (5, .long r_3), (0, .ref (g 0)), (1, .long x1), (4, .int x4)]) hx hb dX0_seek_60 rfl hl (by decide) rfl (fun ls hl => ?_)
            refine lv_iinc (v := (x4 + 1)) (lv' := [(4, .int (x4 + 1)), (3, .int ((2 * x3) + 1)), (7, .int 0), (5, .long r_3), (0, .ref (g 0)), (1, .long x1)]) hx hb dX0_seek_61 hl (k := 5) rfl rfl (by decide) rfl (fun ls hl => ?_)
            refine lv_goto (tgt := 5) hx hb dX0_seek_64 (by decide) ?_
            exact ih ((2 * x3) + 1) (x4 + 1) hw _ _ ls hP hD hS (lv_sub hl [4, 5, 1, 0] rfl)
          · exact absurd (by decide) c_5
        · replace hw := hw.2 c_4
          refine lv_lload hx hb dX0_seek_30 (lv_at hl 0 rfl) ?_
          refine lv_lload_n hx hb dX0_seek_32 rfl (lv_at hl 2 rfl) ?_
          refine q_lc_lt (tgt := 41) hx hb dX0_seek_33 dX0_seek_34 (by decide) (fun c_6 => ?_) (fun c_6 => ?_)
          · replace hw := hw.1 c_6
            refine lv_iconst (v := 0) hx hb dX0_seek_41 (by decide) ?_
            refine lv_istore (lv' := [(7, .int 0), (5, .long r_3), (0, .ref (g 0)), (1, .long x1), (3, .int x3), (4, .int x4)]) hx hb dX0_seek_42 hl (by decide) rfl (fun ls hl => ?_)
            refine lv_iload hx hb dX0_seek_44 (lv_at hl 0 rfl) ?_
            refine lv_if_eq (tgt := 55) hx hb dX0_seek_46 (by decide) (fun c_7 => ?_) (fun c_7 => ?_)
            · refine lv_iconst (v := 2) hx hb dX0_seek_55 (by decide) ?_
              refine lv_iload_n hx hb dX0_seek_56 rfl (lv_at hl 4 rfl) ?_
              refine lv_imul hx hb dX0_seek_57 ?_
              refine lv_iconst (v := 1) hx hb dX0_seek_58 (by decide) ?_
              refine lv_iadd hx hb dX0_seek_59 ?_
              refine lv_istore_n (lv' := [(3, .int ((2 * x3) + 1)), (7, .int 0), (5, .long r_3), (0, .ref (g 0)), (1, .long x1), (4, .int x4)]) hx hb dX0_seek_60 rfl hl (by decide) rfl (fun ls hl => ?_)
              refine lv_iinc (v := (x4 + 1)) (lv' := [(4, .int (x4 + 1)), (3, .int ((2 * x3) + 1)), (7, .int 0), (5, .long r_3), (0, .ref (g 0)), (1, .long x1)]) hx hb dX0_seek_61 hl (k := 5) rfl rfl (by decide) rfl (fun ls hl => ?_)
              refine lv_goto (tgt := 5) hx hb dX0_seek_64 (by decide) ?_
              exact ih ((2 * x3) + 1) (x4 + 1) hw _ _ ls hP hD hS (lv_sub hl [4, 5, 1, 0] rfl)
            · exact absurd (by decide) c_7
          · replace hw := hw.2 c_6
            refine lv_iconst (v := 1) hx hb dX0_seek_37 (by decide) ?_
            refine lv_goto (tgt := 42) hx hb dX0_seek_38 (by decide) ?_
            refine lv_istore (lv' := [(7, .int 1), (5, .long r_3), (0, .ref (g 0)), (1, .long x1), (3, .int x3), (4, .int x4)]) hx hb dX0_seek_42 hl (by decide) rfl (fun ls hl => ?_)
            refine lv_iload hx hb dX0_seek_44 (lv_at hl 0 rfl) ?_
            refine lv_if_eq (tgt := 55) hx hb dX0_seek_46 (by decide) (fun c_8 => ?_) (fun c_8 => ?_)
            · exact absurd c_8 (by decide)
            · refine lv_iconst (v := 2) hx hb dX0_seek_49 (by decide) ?_
              refine lv_iload_n hx hb dX0_seek_50 rfl (lv_at hl 4 rfl) ?_
              refine lv_imul hx hb dX0_seek_51 ?_
              refine lv_goto (tgt := 60) hx hb dX0_seek_52 (by decide) ?_
              refine lv_istore_n (lv' := [(3, .int (2 * x3)), (7, .int 1), (5, .long r_3), (0, .ref (g 0)), (1, .long x1), (4, .int x4)]) hx hb dX0_seek_60 rfl hl (by decide) rfl (fun ls hl => ?_)
              refine lv_iinc (v := (x4 + 1)) (lv' := [(4, .int (x4 + 1)), (3, .int (2 * x3)), (7, .int 1), (5, .long r_3), (0, .ref (g 0)), (1, .long x1)]) hx hb dX0_seek_61 hl (k := 5) rfl rfl (by decide) rfl (fun ls hl => ?_)
              refine lv_goto (tgt := 5) hx hb dX0_seek_64 (by decide) ?_
              exact ih (2 * x3) (x4 + 1) hw _ _ ls hP hD hS (lv_sub hl [4, 5, 1, 0] rfl)
  unfold wp_S_seek at hw
  refine lv_iconst (v := 1) hx hb dX0_seek_0 (by decide) ?_
  refine lv_istore_n (lv' := [(3, .int 1), (0, .ref (g 0)), (1, .long a1)]) hx hb dX0_seek_1 rfl hl (by decide) rfl (fun ls hl => ?_)
  refine lv_iconst (v := 0) hx hb dX0_seek_2 (by decide) ?_
  refine lv_istore (lv' := [(4, .int 0), (3, .int 1), (0, .ref (g 0)), (1, .long a1)]) hx hb dX0_seek_3 hl (by decide) rfl (fun ls hl => ?_)
  obtain ⟨n0, hw⟩ := hw
  exact L5 a1 n0 1 0 hw _ _ ls hP hD hS (lv_sub hl [2, 3, 1, 0] rfl)
set_option maxHeartbeats 4000000 in
set_option maxRecDepth 100000 in
theorem c_S_cellNotBelow (l : Launch) (D : va_G) (g : Nat → Nat) (q : Nat → ClassId) (kS : Nat → Int64) (vS : Nat → Int64) (bS : Nat → Int32) (llS : Int32) (lvS : Int32) (lhS : Int32) (mvS : Int64) (a1 : Int64) (post : Int32 → Prop) (hw : wp_S_cellNotBelow kS lvS a1 post) (sz : Nat) : Met l yX0_cellNotBelow wsX0_cellNotBelow ({ frames := 3, cells := 0, slots := 0, locals := 73 }) (qP D vwCl (tS q) (wS g q kS vS bS llS lvS lhS mvS) sz [.ref (g 0), .long a1]) (va_Qi (fun r (_ : Unit) => post r) (qB D vwCl (tS q) (fun _ : Unit => (wS g q kS vS bS llS lvS lhS mvS)) (va_A (wS g q kS vS bS llS lvS lhS mvS) sz)) (va_A (wS g q kS vS bS llS lvS lhS mvS) sz)) 0 0 (va_A (wS g q kS vS bS llS lvS lhS mvS) sz) := by
  refine q_enter (cc := cX0_cellNotBelow) (maxL := 5) (ret := (some .int)) (fun A => va_Qi (fun r (_ : Unit) => post r) (qB D vwCl (tS q) (fun _ : Unit => (wS g q kS vS bS llS lvS lhS mvS)) A) A) (by decide +kernel) rfl (Nat.le_of_ble_eq_true rfl) ?_
  intro p e s m below meth c A ls hx hb hr hml hown hts hlocks hname hP hK hD hA hl
  replace hown : s.vm.findClass RX0 = some m.cls := hown
  replace hl : lv_has ls 5 [(0, .ref (g 0)), (1, .long a1)] := hl
  have hS : va_S A s.heap s.heap [] := va_S.rf
  have hf_keys := hts _ (List.mem_cons_of_mem _ tfl_X0_9)
  have L12 : ∀ (x1 : Int64) (x3 : Int32) (n : Nat) (x4 : Int32), wp_S_cellNotBelow_L12 kS lvS x1 x3 post n x4 → ∀ (H : Heap) (locs : List Loc) (ls : Array Slot), va_P D vwCl (wS g q kS vS bS llS lvS lhS mvS) H → va_D A (wS g q kS vS bS llS lvS lhS mvS) → va_S A s.heap H locs → lv_has ls 5 [(0, .ref (g 0)), (1, .long x1), (3, .int x3), (4, .int x4)] → W p l e { frames := 3, cells := 0, slots := 0, locals := 73 } s m ([.ref (g 0), .long a1] : List Value).toArray below meth c H locs 0 0 (MQ below (va_Qi (fun r (_ : Unit) => post r) (qB D vwCl (tS q) (fun _ : Unit => (wS g q kS vS bS llS lvS lhS mvS)) A) A) ([.ref (g 0), .long a1] : List Value).toArray s 0 0 A) (F0 m 12 ls []) := by
    intro x1 x3 n
    induction n with
    | zero => intro x4 hw; exact False.elim (show False from hw)
    | succ n ih =>
      intro x4 hw H locs ls hP hD hS hl
      rw [wp_S_cellNotBelow_L12] at hw
      refine lv_iload hx hb dX0_cellNotBelow_12 (lv_at hl 3 rfl) ?_
      refine lv_iload_n hx hb dX0_cellNotBelow_14 rfl (lv_at hl 2 rfl) ?_
      refine lv_bipush (v := 8) hx hb dX0_cellNotBelow_15 (by decide) ?_
      refine lv_iadd hx hb dX0_cellNotBelow_17 ?_
      refine lv_icmp_ge (tgt := 56) hx hb dX0_cellNotBelow_18 (by decide) (fun c_2 => ?_) (fun c_2 => ?_)
      · replace hw := hw.1 c_2
        refine lv_iconst (v := (-1)) hx hb dX0_cellNotBelow_56 (by decide) ?_
        exact q_iret () hx hb hr hlocks hK dX0_cellNotBelow_57 hS hP hD hw
      · replace hw := hw.2 c_2
        refine lv_aload_n hx hb dX0_cellNotBelow_21 rfl (lv_at hl 0 rfl) ?_
        refine va_get (D := D) (ci := 0) (v := .ref (g 1)) (C := RX0) (T := TX0) (N := 7) hx hb hts (fun w h => List.mem_cons_of_mem _ (iX0 w h)) hown hK hP 0 rfl rfl 0 (by decide) hf_keys (fun _ h9 => h9) rfl dX0_cellNotBelow_22 ?_
        refine lv_iload hx hb dX0_cellNotBelow_25 (lv_at hl 3 rfl) ?_
        obtain ⟨hi_3, hw⟩ := hw
        refine va_lald hx hb hK hP 1 0 rfl rfl hi_3 dX0_cellNotBelow_27 ?_
        refine lv_ldc2 (v := NOK) hx hb hown (hts _ (List.mem_cons_of_mem _ tcn_X0_13)) dX0_cellNotBelow_28 ?_
        refine q_lc_eq (tgt := 50) hx hb dX0_cellNotBelow_31 dX0_cellNotBelow_32 (by decide) (fun c_4 => ?_) (fun c_4 => ?_)
        · replace hw := hw.1 c_4
          refine lv_iinc (v := (x4 + 1)) (lv' := [(4, .int (x4 + 1)), (0, .ref (g 0)), (1, .long x1), (3, .int x3)]) hx hb dX0_cellNotBelow_50 hl (k := 3) rfl rfl (by decide) rfl (fun ls hl => ?_)
          refine lv_goto (tgt := 12) hx hb dX0_cellNotBelow_53 (by decide) ?_
          exact ih (x4 + 1) hw _ _ ls hP hD hS (lv_sub hl [1, 2, 3, 0] rfl)
        · replace hw := hw.2 c_4
          refine lv_aload_n hx hb dX0_cellNotBelow_35 rfl (lv_at hl 0 rfl) ?_
          refine va_get (D := D) (ci := 0) (v := .ref (g 1)) (C := RX0) (T := TX0) (N := 7) hx hb hts (fun w h => List.mem_cons_of_mem _ (iX0 w h)) hown hK hP 0 rfl rfl 0 (by decide) hf_keys (fun _ h9 => h9) rfl dX0_cellNotBelow_36 ?_
          refine lv_iload hx hb dX0_cellNotBelow_39 (lv_at hl 3 rfl) ?_
          refine va_lald hx hb hK hP 1 0 rfl rfl hi_3 dX0_cellNotBelow_41 ?_
          refine lv_lload_n hx hb dX0_cellNotBelow_42 rfl (lv_at hl 1 rfl) ?_
          refine q_lc_lt (tgt := 50) hx hb dX0_cellNotBelow_43 dX0_cellNotBelow_44 (by decide) (fun c_5 => ?_) (fun c_5 => ?_)
          · replace hw := hw.1 c_5
            refine lv_iinc (v := (x4 + 1)) (lv' := [(4, .int (x4 + 1)), (0, .ref (g 0)), (1, .long x1), (3, .int x3)]) hx hb dX0_cellNotBelow_50 hl (k := 3) rfl rfl (by decide) rfl (fun ls hl => ?_)
            refine lv_goto (tgt := 12) hx hb dX0_cellNotBelow_53 (by decide) ?_
            exact ih (x4 + 1) hw _ _ ls hP hD hS (lv_sub hl [1, 2, 3, 0] rfl)
          · replace hw := hw.2 c_5
            refine lv_iload hx hb dX0_cellNotBelow_47 (lv_at hl 3 rfl) ?_
            exact q_iret () hx hb hr hlocks hK dX0_cellNotBelow_49 hS hP hD hw
  unfold wp_S_cellNotBelow at hw
  refine lv_aload_n hx hb dX0_cellNotBelow_0 rfl (lv_at hl 0 rfl) ?_
  refine lv_lload_n hx hb dX0_cellNotBelow_1 rfl (lv_at hl 1 rfl) ?_
  refine q_callVi (As := [.long a1]) (rest := []) (wr := []) [0, 1, 2, 3] [] ⟨hx, hb, hml, hown, hts⟩ (c_S_seek l D g q kS vS bS llS lvS lhS mvS a1 _ hw _) (cwV 1 hts gX0_cellNotBelow_X0_seek rfl rfl rfl (by decide +kernel) ⟨Nat.le_of_ble_eq_true rfl, Nat.le_of_ble_eq_true rfl⟩) (va_recv hK hP (ci := 0) (q0 := 0) rfl rfl) hK hP hD hS hA rfl rfl rfl (by decide) (by decide) (by decide) rfl hl.1 rfl (Nat.le_of_ble_eq_true rfl) dX0_cellNotBelow_2 ⟨Nat.zero_le _, Nat.zero_le _⟩ (fun r_1 u H locs hw hP hD hS => ?_)
  try dsimp only at hw
  replace hP : va_P D vwCl (wS g q kS vS bS llS lvS lhS mvS) H := hP
  replace hD : va_D A (wS g q kS vS bS llS lvS lhS mvS) := hD
  refine lv_bipush (v := 8) hx hb dX0_cellNotBelow_5 (by decide) ?_
  refine lv_imul hx hb dX0_cellNotBelow_7 ?_
  refine lv_istore_n (lv' := [(3, .int (r_1 * 8)), (0, .ref (g 0)), (1, .long a1)]) hx hb dX0_cellNotBelow_8 rfl hl (by decide) rfl (fun ls hl => ?_)
  refine lv_iload_n hx hb dX0_cellNotBelow_9 rfl (lv_at hl 0 rfl) ?_
  refine lv_istore (lv' := [(4, .int (r_1 * 8)), (3, .int (r_1 * 8)), (0, .ref (g 0)), (1, .long a1)]) hx hb dX0_cellNotBelow_10 hl (by decide) rfl (fun ls hl => ?_)
  obtain ⟨n0, hw⟩ := hw
  exact L12 a1 (r_1 * 8) n0 (r_1 * 8) hw _ _ ls hP hD hS (lv_sub hl [2, 3, 1, 0] rfl)
set_option maxHeartbeats 4000000 in
set_option maxRecDepth 100000 in
theorem c_S_cellOf (l : Launch) (D : va_G) (g : Nat → Nat) (q : Nat → ClassId) (kS : Nat → Int64) (vS : Nat → Int64) (bS : Nat → Int32) (llS : Int32) (lvS : Int32) (lhS : Int32) (mvS : Int64) (a1 : Int64) (post : Int32 → Prop) (hw : wp_S_cellOf kS lvS a1 post) (sz : Nat) : Met l yX0_cellOf wsX0_cellOf ({ frames := 4, cells := 0, slots := 0, locals := 97 }) (qP D vwCl (tS q) (wS g q kS vS bS llS lvS lhS mvS) sz [.ref (g 0), .long a1]) (va_Qi (fun r (_ : Unit) => post r) (qB D vwCl (tS q) (fun _ : Unit => (wS g q kS vS bS llS lvS lhS mvS)) (va_A (wS g q kS vS bS llS lvS lhS mvS) sz)) (va_A (wS g q kS vS bS llS lvS lhS mvS) sz)) 0 0 (va_A (wS g q kS vS bS llS lvS lhS mvS) sz) := by
  refine q_enter (cc := cX0_cellOf) (maxL := 4) (ret := (some .int)) (fun A => va_Qi (fun r (_ : Unit) => post r) (qB D vwCl (tS q) (fun _ : Unit => (wS g q kS vS bS llS lvS lhS mvS)) A) A) (by decide +kernel) rfl (Nat.le_of_ble_eq_true rfl) ?_
  intro p e s m below meth c A ls hx hb hr hml hown hts hlocks hname hP hK hD hA hl
  replace hown : s.vm.findClass RX0 = some m.cls := hown
  replace hl : lv_has ls 4 [(0, .ref (g 0)), (1, .long a1)] := hl
  have hS : va_S A s.heap s.heap [] := va_S.rf
  have hf_keys := hts _ (List.mem_cons_of_mem _ tfl_X0_9)
  unfold wp_S_cellOf at hw
  refine lv_aload_n hx hb dX0_cellOf_0 rfl (lv_at hl 0 rfl) ?_
  refine lv_lload_n hx hb dX0_cellOf_1 rfl (lv_at hl 1 rfl) ?_
  refine q_callVi (As := [.long a1]) (rest := []) (wr := []) [0, 1, 2, 3] [] ⟨hx, hb, hml, hown, hts⟩ (c_S_cellNotBelow l D g q kS vS bS llS lvS lhS mvS a1 _ hw _) (cwV 1 hts gX0_cellOf_X0_cellNotBelow rfl rfl rfl (by decide +kernel) ⟨Nat.le_of_ble_eq_true rfl, Nat.le_of_ble_eq_true rfl⟩) (va_recv hK hP (ci := 0) (q0 := 0) rfl rfl) hK hP hD hS hA rfl rfl rfl (by decide) (by decide) (by decide) rfl hl.1 rfl (Nat.le_of_ble_eq_true rfl) dX0_cellOf_2 ⟨Nat.zero_le _, Nat.zero_le _⟩ (fun r_1 u H locs hw hP hD hS => ?_)
  try dsimp only at hw
  replace hP : va_P D vwCl (wS g q kS vS bS llS lvS lhS mvS) H := hP
  replace hD : va_D A (wS g q kS vS bS llS lvS lhS mvS) := hD
  refine lv_istore_n (lv' := [(3, .int r_1), (0, .ref (g 0)), (1, .long a1)]) hx hb dX0_cellOf_5 rfl hl (by decide) rfl (fun ls hl => ?_)
  refine lv_iload_n hx hb dX0_cellOf_6 rfl (lv_at hl 0 rfl) ?_
  refine lv_iconst (v := (-1)) hx hb dX0_cellOf_7 (by decide) ?_
  refine lv_icmp_eq (tgt := 26) hx hb dX0_cellOf_8 (by decide) (fun c_2 => ?_) (fun c_2 => ?_)
  · replace hw := hw.1 c_2
    refine lv_iconst (v := (-1)) hx hb dX0_cellOf_26 (by decide) ?_
    exact q_iret () hx hb hr hlocks hK dX0_cellOf_27 hS hP hD hw
  · replace hw := hw.2 c_2
    refine lv_aload_n hx hb dX0_cellOf_11 rfl (lv_at hl 1 rfl) ?_
    refine va_get (D := D) (ci := 0) (v := .ref (g 1)) (C := RX0) (T := TX0) (N := 7) hx hb hts (fun w h => List.mem_cons_of_mem _ (iX0 w h)) hown hK hP 0 rfl rfl 0 (by decide) hf_keys (fun _ h9 => h9) rfl dX0_cellOf_12 ?_
    refine lv_iload_n hx hb dX0_cellOf_15 rfl (lv_at hl 0 rfl) ?_
    obtain ⟨hi_3, hw⟩ := hw
    refine va_lald hx hb hK hP 1 0 rfl rfl hi_3 dX0_cellOf_16 ?_
    refine lv_lload_n hx hb dX0_cellOf_17 rfl (lv_at hl 2 rfl) ?_
    refine q_lc_ne (tgt := 26) hx hb dX0_cellOf_18 dX0_cellOf_19 (by decide) (fun c_4 => ?_) (fun c_4 => ?_)
    · replace hw := hw.2 c_4
      refine lv_iconst (v := (-1)) hx hb dX0_cellOf_26 (by decide) ?_
      exact q_iret () hx hb hr hlocks hK dX0_cellOf_27 hS hP hD hw
    · replace hw := hw.1 c_4
      refine lv_iload_n hx hb dX0_cellOf_22 rfl (lv_at hl 0 rfl) ?_
      refine lv_goto (tgt := 27) hx hb dX0_cellOf_23 (by decide) ?_
      exact q_iret () hx hb hr hlocks hK dX0_cellOf_27 hS hP hD hw
