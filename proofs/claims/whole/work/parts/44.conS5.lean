set_option maxHeartbeats 4000000 in
set_option maxRecDepth 100000 in
theorem c_S_select (l : Launch) (D : va_G) (g : Nat → Nat) (q : Nat → ClassId) (kS : Nat → Int64) (vS : Nat → Int64) (bS : Nat → Int32) (llS : Int32) (lvS : Int32) (lhS : Int32) (mvS : Int64) (a1 : Int32) (post : Int64 → Prop) (hw : wp_S_select kS lvS a1 post) (sz : Nat) : Met l yX0_select wsX0_select ({ frames := 2, cells := 0, slots := 0, locals := 40 }) (qP D vwCl (tS q) (wS g q kS vS bS llS lvS lhS mvS) sz [.ref (g 0), .int a1]) (va_Ql (fun r (_ : Unit) => post r) (qB D vwCl (tS q) (fun _ : Unit => (wS g q kS vS bS llS lvS lhS mvS)) (va_A (wS g q kS vS bS llS lvS lhS mvS) sz)) (va_A (wS g q kS vS bS llS lvS lhS mvS) sz)) 0 0 (va_A (wS g q kS vS bS llS lvS lhS mvS) sz) := by
  refine q_enter (cc := cX0_select) (maxL := 4) (ret := (some .long)) (fun A => va_Ql (fun r (_ : Unit) => post r) (qB D vwCl (tS q) (fun _ : Unit => (wS g q kS vS bS llS lvS lhS mvS)) A) A) (by decide +kernel) rfl (Nat.le_of_ble_eq_true rfl) ?_
  intro p e s m below meth c A ls hx hb hr hml hown hts hlocks hname hP hK hD hA hl
  replace hown : s.vm.findClass RX0 = some m.cls := hown
  replace hl : lv_has ls 4 [(0, .ref (g 0)), (1, .int a1)] := hl
  have hS : va_S A s.heap s.heap [] := va_S.rf
  have hf_keys := hts _ (List.mem_cons_of_mem _ tfl_X0_9)
  have L4 : ∀ (x1 : Int32) (n : Nat) (x2 : Int32) (x3 : Int32), wp_S_select_L4 kS lvS x1 post n x2 x3 → ∀ (H : Heap) (locs : List Loc) (ls : Array Slot), va_P D vwCl (wS g q kS vS bS llS lvS lhS mvS) H → va_D A (wS g q kS vS bS llS lvS lhS mvS) → va_S A s.heap H locs → lv_has ls 4 [(0, .ref (g 0)), (1, .int x1), (2, .int x2), (3, .int x3)] → W p l e { frames := 2, cells := 0, slots := 0, locals := 40 } s m ([.ref (g 0), .int a1] : List Value).toArray below meth c H locs 0 0 (MQ below (va_Ql (fun r (_ : Unit) => post r) (qB D vwCl (tS q) (fun _ : Unit => (wS g q kS vS bS llS lvS lhS mvS)) A) A) ([.ref (g 0), .int a1] : List Value).toArray s 0 0 A) (F0 m 4 ls []) := by
    intro x1 n
    induction n with
    | zero => intro x2 x3 hw; exact False.elim (show False from hw)
    | succ n ih =>
      intro x2 x3 hw H locs ls hP hD hS hl
      rw [wp_S_select_L4] at hw
      refine lv_iload_n hx hb dX0_select_4 rfl (lv_at hl 3 rfl) ?_
      refine lv_aload_n hx hb dX0_select_5 rfl (lv_at hl 0 rfl) ?_
      refine q_callVi (As := []) (rest := [.int x3]) (wr := []) [0, 1, 2, 3] [] ⟨hx, hb, hml, hown, hts⟩ (c_S_cells l D g q kS vS bS llS lvS lhS mvS  _ hw _) (cwV 0 hts gX0_select_X0_cells rfl rfl rfl (by decide +kernel) ⟨Nat.le_of_ble_eq_true rfl, Nat.le_of_ble_eq_true rfl⟩) (va_recv hK hP (ci := 0) (q0 := 0) rfl rfl) hK hP hD hS hA rfl rfl rfl (by decide) (by decide) (by decide) rfl hl.1 rfl (Nat.le_of_ble_eq_true rfl) dX0_select_6 ⟨Nat.zero_le _, Nat.zero_le _⟩ (fun r_1 u H locs hw hP hD hS => ?_)
      try dsimp only at hw
      replace hP : va_P D vwCl (wS g q kS vS bS llS lvS lhS mvS) H := hP
      replace hD : va_D A (wS g q kS vS bS llS lvS lhS mvS) := hD
      refine lv_icmp_ge (tgt := 46) hx hb dX0_select_9 (by decide) (fun c_2 => ?_) (fun c_2 => ?_)
      · replace hw := hw.1 c_2
        refine lv_ldc2 (v := NOK) hx hb hown (hts _ (List.mem_cons_of_mem _ tcn_X0_13)) dX0_select_46 ?_
        exact q_lret () hx hb hr hlocks hK dX0_select_49 hS hP hD hw
      · replace hw := hw.2 c_2
        refine lv_aload_n hx hb dX0_select_12 rfl (lv_at hl 0 rfl) ?_
        refine va_get (D := D) (ci := 0) (v := .ref (g 1)) (C := RX0) (T := TX0) (N := 7) hx hb hts (fun w h => List.mem_cons_of_mem _ (iX0 w h)) hown hK hP 0 rfl rfl 0 (by decide) hf_keys (fun _ h9 => h9) rfl dX0_select_13 ?_
        refine lv_iload_n hx hb dX0_select_16 rfl (lv_at hl 3 rfl) ?_
        obtain ⟨hi_3, hw⟩ := hw
        refine va_lald hx hb hK hP 1 0 rfl rfl hi_3 dX0_select_17 ?_
        refine lv_ldc2 (v := NOK) hx hb hown (hts _ (List.mem_cons_of_mem _ tcn_X0_13)) dX0_select_18 ?_
        refine q_lc_eq (tgt := 40) hx hb dX0_select_21 dX0_select_22 (by decide) (fun c_4 => ?_) (fun c_4 => ?_)
        · replace hw := hw.1 c_4
          refine lv_iinc (v := (x3 + 1)) (lv' := [(3, .int (x3 + 1)), (0, .ref (g 0)), (1, .int x1), (2, .int x2)]) hx hb dX0_select_40 hl (k := 3) rfl rfl (by decide) rfl (fun ls hl => ?_)
          refine lv_goto (tgt := 4) hx hb dX0_select_43 (by decide) ?_
          exact ih x2 (x3 + 1) hw _ _ ls hP hD hS (lv_sub hl [1, 2, 3, 0] rfl)
        · replace hw := hw.2 c_4
          refine lv_iload_n hx hb dX0_select_25 rfl (lv_at hl 2 rfl) ?_
          refine lv_iload_n hx hb dX0_select_26 rfl (lv_at hl 1 rfl) ?_
          refine lv_icmp_ne (tgt := 37) hx hb dX0_select_27 (by decide) (fun c_5 => ?_) (fun c_5 => ?_)
          · replace hw := hw.2 c_5
            refine lv_iinc (v := (x2 + 1)) (lv' := [(2, .int (x2 + 1)), (0, .ref (g 0)), (1, .int x1), (3, .int x3)]) hx hb dX0_select_37 hl (k := 2) rfl rfl (by decide) rfl (fun ls hl => ?_)
            refine lv_iinc (v := (x3 + 1)) (lv' := [(3, .int (x3 + 1)), (2, .int (x2 + 1)), (0, .ref (g 0)), (1, .int x1)]) hx hb dX0_select_40 hl (k := 3) rfl rfl (by decide) rfl (fun ls hl => ?_)
            refine lv_goto (tgt := 4) hx hb dX0_select_43 (by decide) ?_
            exact ih (x2 + 1) (x3 + 1) hw _ _ ls hP hD hS (lv_sub hl [2, 3, 1, 0] rfl)
          · replace hw := hw.1 c_5
            refine lv_aload_n hx hb dX0_select_30 rfl (lv_at hl 0 rfl) ?_
            refine va_get (D := D) (ci := 0) (v := .ref (g 1)) (C := RX0) (T := TX0) (N := 7) hx hb hts (fun w h => List.mem_cons_of_mem _ (iX0 w h)) hown hK hP 0 rfl rfl 0 (by decide) hf_keys (fun _ h9 => h9) rfl dX0_select_31 ?_
            refine lv_iload_n hx hb dX0_select_34 rfl (lv_at hl 3 rfl) ?_
            refine va_lald hx hb hK hP 1 0 rfl rfl hi_3 dX0_select_35 ?_
            exact q_lret () hx hb hr hlocks hK dX0_select_36 hS hP hD hw
  unfold wp_S_select at hw
  refine lv_iconst (v := 0) hx hb dX0_select_0 (by decide) ?_
  refine lv_istore_n (lv' := [(2, .int 0), (0, .ref (g 0)), (1, .int a1)]) hx hb dX0_select_1 rfl hl (by decide) rfl (fun ls hl => ?_)
  refine lv_iconst (v := 0) hx hb dX0_select_2 (by decide) ?_
  refine lv_istore_n (lv' := [(3, .int 0), (2, .int 0), (0, .ref (g 0)), (1, .int a1)]) hx hb dX0_select_3 rfl hl (by decide) rfl (fun ls hl => ?_)
  obtain ⟨n0, hw⟩ := hw
  exact L4 a1 n0 0 0 hw _ _ ls hP hD hS (lv_sub hl [2, 3, 1, 0] rfl)
set_option maxHeartbeats 4000000 in
set_option maxRecDepth 100000 in
theorem c_S_isHeldBetween (l : Launch) (D : va_G) (g : Nat → Nat) (q : Nat → ClassId) (kS : Nat → Int64) (vS : Nat → Int64) (bS : Nat → Int32) (llS : Int32) (lvS : Int32) (lhS : Int32) (mvS : Int64) (a1 : Int32) (a2 : Int64) (a4 : Int64) (post : Int32 → Prop) (hw : wp_S_isHeldBetween kS a1 a2 a4 post) (sz : Nat) : Met l yX0_isHeldBetween wsX0_isHeldBetween ({ frames := 0, cells := 0, slots := 0, locals := 0 }) (qP D vwCl (tS q) (wS g q kS vS bS llS lvS lhS mvS) sz [.ref (g 0), .int a1, .long a2, .long a4]) (va_Qi (fun r (_ : Unit) => post r) (qB D vwCl (tS q) (fun _ : Unit => (wS g q kS vS bS llS lvS lhS mvS)) (va_A (wS g q kS vS bS llS lvS lhS mvS) sz)) (va_A (wS g q kS vS bS llS lvS lhS mvS) sz)) 0 0 (va_A (wS g q kS vS bS llS lvS lhS mvS) sz) := by
  refine q_enter (cc := cX0_isHeldBetween) (maxL := 8) (ret := (some .boolean)) (fun A => va_Qi (fun r (_ : Unit) => post r) (qB D vwCl (tS q) (fun _ : Unit => (wS g q kS vS bS llS lvS lhS mvS)) A) A) (by decide +kernel) rfl (Nat.le_of_ble_eq_true rfl) ?_
  intro p e s m below meth c A ls hx hb hr hml hown hts hlocks hname hP hK hD hA hl
  replace hown : s.vm.findClass RX0 = some m.cls := hown
  replace hl : lv_has ls 8 [(0, .ref (g 0)), (1, .int a1), (2, .long a2), (4, .long a4)] := hl
  have hS : va_S A s.heap s.heap [] := va_S.rf
  have hf_keys := hts _ (List.mem_cons_of_mem _ tfl_X0_9)
  unfold wp_S_isHeldBetween at hw
  refine lv_aload_n hx hb dX0_isHeldBetween_0 rfl (lv_at hl 0 rfl) ?_
  refine va_get (D := D) (ci := 0) (v := .ref (g 1)) (C := RX0) (T := TX0) (N := 7) hx hb hts (fun w h => List.mem_cons_of_mem _ (iX0 w h)) hown hK hP 0 rfl rfl 0 (by decide) hf_keys (fun _ h9 => h9) rfl dX0_isHeldBetween_1 ?_
  refine lv_iload_n hx hb dX0_isHeldBetween_4 rfl (lv_at hl 1 rfl) ?_
  obtain ⟨hi_1, hw⟩ := hw
  refine va_lald hx hb hK hP 1 0 rfl rfl hi_1 dX0_isHeldBetween_5 ?_
  refine lv_lstore (lv' := [(6, .long (kS a1.toNatClampNeg)), (0, .ref (g 0)), (1, .int a1), (2, .long a2), (4, .long a4)]) hx hb dX0_isHeldBetween_6 hl (by decide) rfl (fun ls hl => ?_)
  refine lv_lload hx hb dX0_isHeldBetween_8 (lv_at hl 0 rfl) ?_
  refine lv_ldc2 (v := NOK) hx hb hown (hts _ (List.mem_cons_of_mem _ tcn_X0_13)) dX0_isHeldBetween_10 ?_
  refine q_lc_eq (tgt := 36) hx hb dX0_isHeldBetween_13 dX0_isHeldBetween_14 (by decide) (fun c_2 => ?_) (fun c_2 => ?_)
  · replace hw := hw.1 c_2
    refine lv_iconst (v := 0) hx hb dX0_isHeldBetween_36 (by decide) ?_
    exact q_zret () hx hb hr (by decide) hlocks hK dX0_isHeldBetween_37 hS hP hD hw
  · replace hw := hw.2 c_2
    refine lv_lload hx hb dX0_isHeldBetween_17 (lv_at hl 0 rfl) ?_
    refine lv_lload_n hx hb dX0_isHeldBetween_19 rfl (lv_at hl 3 rfl) ?_
    refine q_lc_lt (tgt := 36) hx hb dX0_isHeldBetween_20 dX0_isHeldBetween_21 (by decide) (fun c_3 => ?_) (fun c_3 => ?_)
    · replace hw := hw.1 c_3
      refine lv_iconst (v := 0) hx hb dX0_isHeldBetween_36 (by decide) ?_
      exact q_zret () hx hb hr (by decide) hlocks hK dX0_isHeldBetween_37 hS hP hD hw
    · replace hw := hw.2 c_3
      refine lv_lload hx hb dX0_isHeldBetween_24 (lv_at hl 0 rfl) ?_
      refine lv_lload hx hb dX0_isHeldBetween_26 (lv_at hl 4 rfl) ?_
      refine q_lc_gt (tgt := 36) hx hb dX0_isHeldBetween_28 dX0_isHeldBetween_29 (by decide) (fun c_4 => ?_) (fun c_4 => ?_)
      · replace hw := hw.1 c_4
        refine lv_iconst (v := 0) hx hb dX0_isHeldBetween_36 (by decide) ?_
        exact q_zret () hx hb hr (by decide) hlocks hK dX0_isHeldBetween_37 hS hP hD hw
      · replace hw := hw.2 c_4
        refine lv_iconst (v := 1) hx hb dX0_isHeldBetween_32 (by decide) ?_
        refine lv_goto (tgt := 37) hx hb dX0_isHeldBetween_33 (by decide) ?_
        exact q_zret () hx hb hr (by decide) hlocks hK dX0_isHeldBetween_37 hS hP hD hw
set_option maxHeartbeats 4000000 in
set_option maxRecDepth 100000 in
theorem c_S_count (l : Launch) (D : va_G) (g : Nat → Nat) (q : Nat → ClassId) (kS : Nat → Int64) (vS : Nat → Int64) (bS : Nat → Int32) (llS : Int32) (lvS : Int32) (lhS : Int32) (mvS : Int64) (a1 : Int64) (a3 : Int64) (post : Int32 → Prop) (hw : wp_S_count kS lvS a1 a3 post) (sz : Nat) : Met l yX0_count wsX0_count ({ frames := 2, cells := 0, slots := 0, locals := 40 }) (qP D vwCl (tS q) (wS g q kS vS bS llS lvS lhS mvS) sz [.ref (g 0), .long a1, .long a3]) (va_Qi (fun r (_ : Unit) => post r) (qB D vwCl (tS q) (fun _ : Unit => (wS g q kS vS bS llS lvS lhS mvS)) (va_A (wS g q kS vS bS llS lvS lhS mvS) sz)) (va_A (wS g q kS vS bS llS lvS lhS mvS) sz)) 0 0 (va_A (wS g q kS vS bS llS lvS lhS mvS) sz) := by
  refine q_enter (cc := cX0_count) (maxL := 7) (ret := (some .int)) (fun A => va_Qi (fun r (_ : Unit) => post r) (qB D vwCl (tS q) (fun _ : Unit => (wS g q kS vS bS llS lvS lhS mvS)) A) A) (by decide +kernel) rfl (Nat.le_of_ble_eq_true rfl) ?_
  intro p e s m below meth c A ls hx hb hr hml hown hts hlocks hname hP hK hD hA hl
  replace hown : s.vm.findClass RX0 = some m.cls := hown
  replace hl : lv_has ls 7 [(0, .ref (g 0)), (1, .long a1), (3, .long a3)] := hl
  have hS : va_S A s.heap s.heap [] := va_S.rf
  have L6 : ∀ (x1 : Int64) (x3 : Int64) (n : Nat) (x5 : Int32) (x6 : Int32), wp_S_count_L6 kS lvS x1 x3 post n x5 x6 → ∀ (H : Heap) (locs : List Loc) (ls : Array Slot), va_P D vwCl (wS g q kS vS bS llS lvS lhS mvS) H → va_D A (wS g q kS vS bS llS lvS lhS mvS) → va_S A s.heap H locs → lv_has ls 7 [(0, .ref (g 0)), (1, .long x1), (3, .long x3), (5, .int x5), (6, .int x6)] → W p l e { frames := 2, cells := 0, slots := 0, locals := 40 } s m ([.ref (g 0), .long a1, .long a3] : List Value).toArray below meth c H locs 0 0 (MQ below (va_Qi (fun r (_ : Unit) => post r) (qB D vwCl (tS q) (fun _ : Unit => (wS g q kS vS bS llS lvS lhS mvS)) A) A) ([.ref (g 0), .long a1, .long a3] : List Value).toArray s 0 0 A) (F0 m 6 ls []) := by
    intro x1 x3 n
    induction n with
    | zero => intro x5 x6 hw; exact False.elim (show False from hw)
    | succ n ih =>
      intro x5 x6 hw H locs ls hP hD hS hl
      rw [wp_S_count_L6] at hw
      refine lv_iload hx hb dX0_count_6 (lv_at hl 4 rfl) ?_
      refine lv_aload_n hx hb dX0_count_8 rfl (lv_at hl 0 rfl) ?_
      refine q_callVi (As := []) (rest := [.int x6]) (wr := []) [0, 1, 2, 3] [] ⟨hx, hb, hml, hown, hts⟩ (c_S_cells l D g q kS vS bS llS lvS lhS mvS  _ hw _) (cwV 0 hts gX0_count_X0_cells rfl rfl rfl (by decide +kernel) ⟨Nat.le_of_ble_eq_true rfl, Nat.le_of_ble_eq_true rfl⟩) (va_recv hK hP (ci := 0) (q0 := 0) rfl rfl) hK hP hD hS hA rfl rfl rfl (by decide) (by decide) (by decide) rfl hl.1 rfl (Nat.le_of_ble_eq_true rfl) dX0_count_9 ⟨Nat.zero_le _, Nat.zero_le _⟩ (fun r_1 u H locs hw hP hD hS => ?_)
      try dsimp only at hw
      replace hP : va_P D vwCl (wS g q kS vS bS llS lvS lhS mvS) H := hP
      replace hD : va_D A (wS g q kS vS bS llS lvS lhS mvS) := hD
      refine lv_icmp_ge (tgt := 35) hx hb dX0_count_12 (by decide) (fun c_2 => ?_) (fun c_2 => ?_)
      · replace hw := hw.1 c_2
        refine lv_iload hx hb dX0_count_35 (lv_at hl 3 rfl) ?_
        exact q_iret () hx hb hr hlocks hK dX0_count_37 hS hP hD hw
      · replace hw := hw.2 c_2
        refine lv_aload_n hx hb dX0_count_15 rfl (lv_at hl 0 rfl) ?_
        refine lv_iload hx hb dX0_count_16 (lv_at hl 4 rfl) ?_
        refine lv_lload_n hx hb dX0_count_18 rfl (lv_at hl 1 rfl) ?_
        refine lv_lload_n hx hb dX0_count_19 rfl (lv_at hl 2 rfl) ?_
        refine q_callVi (As := [.int x6, .long x1, .long x3]) (rest := []) (wr := []) [0, 1, 2, 3] [] ⟨hx, hb, hml, hown, hts⟩ (c_S_isHeldBetween l D g q kS vS bS llS lvS lhS mvS x6 x1 x3 _ hw _) (cwV 3 hts gX0_count_X0_isHeldBetween rfl rfl rfl (by decide +kernel) ⟨Nat.le_of_ble_eq_true rfl, Nat.le_of_ble_eq_true rfl⟩) (va_recv hK hP (ci := 0) (q0 := 0) rfl rfl) hK hP hD hS hA rfl rfl rfl (by decide) (by decide) (by decide) rfl hl.1 rfl (Nat.le_of_ble_eq_true rfl) dX0_count_20 ⟨Nat.zero_le _, Nat.zero_le _⟩ (fun r_3 u H locs hw hP hD hS => ?_)
        try dsimp only at hw
        replace hP : va_P D vwCl (wS g q kS vS bS llS lvS lhS mvS) H := hP
        replace hD : va_D A (wS g q kS vS bS llS lvS lhS mvS) := hD
        refine lv_if_eq (tgt := 29) hx hb dX0_count_23 (by decide) (fun c_4 => ?_) (fun c_4 => ?_)
        · replace hw := hw.1 c_4
          refine lv_iinc (v := (x6 + 1)) (lv' := [(6, .int (x6 + 1)), (0, .ref (g 0)), (1, .long x1), (3, .long x3), (5, .int x5)]) hx hb dX0_count_29 hl (k := 4) rfl rfl (by decide) rfl (fun ls hl => ?_)
          refine lv_goto (tgt := 6) hx hb dX0_count_32 (by decide) ?_
          exact ih x5 (x6 + 1) hw _ _ ls hP hD hS (lv_sub hl [1, 2, 3, 4, 0] rfl)
        · replace hw := hw.2 c_4
          refine lv_iinc (v := (x5 + 1)) (lv' := [(5, .int (x5 + 1)), (0, .ref (g 0)), (1, .long x1), (3, .long x3), (6, .int x6)]) hx hb dX0_count_26 hl (k := 3) rfl rfl (by decide) rfl (fun ls hl => ?_)
          refine lv_iinc (v := (x6 + 1)) (lv' := [(6, .int (x6 + 1)), (5, .int (x5 + 1)), (0, .ref (g 0)), (1, .long x1), (3, .long x3)]) hx hb dX0_count_29 hl (k := 4) rfl rfl (by decide) rfl (fun ls hl => ?_)
          refine lv_goto (tgt := 6) hx hb dX0_count_32 (by decide) ?_
          exact ih (x5 + 1) (x6 + 1) hw _ _ ls hP hD hS (lv_sub hl [2, 3, 4, 1, 0] rfl)
  unfold wp_S_count at hw
  refine lv_iconst (v := 0) hx hb dX0_count_0 (by decide) ?_
  refine lv_istore (lv' := [(5, .int 0), (0, .ref (g 0)), (1, .long a1), (3, .long a3)]) hx hb dX0_count_1 hl (by decide) rfl (fun ls hl => ?_)
  refine lv_iconst (v := 0) hx hb dX0_count_3 (by decide) ?_
  refine lv_istore (lv' := [(6, .int 0), (5, .int 0), (0, .ref (g 0)), (1, .long a1), (3, .long a3)]) hx hb dX0_count_4 hl (by decide) rfl (fun ls hl => ?_)
  obtain ⟨n0, hw⟩ := hw
  exact L6 a1 a3 n0 0 0 hw _ _ ls hP hD hS (lv_sub hl [2, 3, 4, 1, 0] rfl)
set_option maxHeartbeats 4000000 in
set_option maxRecDepth 100000 in
theorem c_S_sum (l : Launch) (D : va_G) (g : Nat → Nat) (q : Nat → ClassId) (kS : Nat → Int64) (vS : Nat → Int64) (bS : Nat → Int32) (llS : Int32) (lvS : Int32) (lhS : Int32) (mvS : Int64) (a1 : Int64) (a3 : Int64) (post : Int64 → Prop) (hw : wp_S_sum kS vS lvS a1 a3 post) (sz : Nat) : Met l yX0_sum wsX0_sum ({ frames := 2, cells := 0, slots := 0, locals := 40 }) (qP D vwCl (tS q) (wS g q kS vS bS llS lvS lhS mvS) sz [.ref (g 0), .long a1, .long a3]) (va_Ql (fun r (_ : Unit) => post r) (qB D vwCl (tS q) (fun _ : Unit => (wS g q kS vS bS llS lvS lhS mvS)) (va_A (wS g q kS vS bS llS lvS lhS mvS) sz)) (va_A (wS g q kS vS bS llS lvS lhS mvS) sz)) 0 0 (va_A (wS g q kS vS bS llS lvS lhS mvS) sz) := by
  refine q_enter (cc := cX0_sum) (maxL := 8) (ret := (some .long)) (fun A => va_Ql (fun r (_ : Unit) => post r) (qB D vwCl (tS q) (fun _ : Unit => (wS g q kS vS bS llS lvS lhS mvS)) A) A) (by decide +kernel) rfl (Nat.le_of_ble_eq_true rfl) ?_
  intro p e s m below meth c A ls hx hb hr hml hown hts hlocks hname hP hK hD hA hl
  replace hown : s.vm.findClass RX0 = some m.cls := hown
  replace hl : lv_has ls 8 [(0, .ref (g 0)), (1, .long a1), (3, .long a3)] := hl
  have hS : va_S A s.heap s.heap [] := va_S.rf
  have hf_values := hts _ (List.mem_cons_of_mem _ tfl_X0_21)
  have L6 : ∀ (x1 : Int64) (x3 : Int64) (n : Nat) (x5 : Int64) (x7 : Int32), wp_S_sum_L6 kS vS lvS x1 x3 post n x5 x7 → ∀ (H : Heap) (locs : List Loc) (ls : Array Slot), va_P D vwCl (wS g q kS vS bS llS lvS lhS mvS) H → va_D A (wS g q kS vS bS llS lvS lhS mvS) → va_S A s.heap H locs → lv_has ls 8 [(0, .ref (g 0)), (1, .long x1), (3, .long x3), (5, .long x5), (7, .int x7)] → W p l e { frames := 2, cells := 0, slots := 0, locals := 40 } s m ([.ref (g 0), .long a1, .long a3] : List Value).toArray below meth c H locs 0 0 (MQ below (va_Ql (fun r (_ : Unit) => post r) (qB D vwCl (tS q) (fun _ : Unit => (wS g q kS vS bS llS lvS lhS mvS)) A) A) ([.ref (g 0), .long a1, .long a3] : List Value).toArray s 0 0 A) (F0 m 6 ls []) := by
    intro x1 x3 n
    induction n with
    | zero => intro x5 x7 hw; exact False.elim (show False from hw)
    | succ n ih =>
      intro x5 x7 hw H locs ls hP hD hS hl
      rw [wp_S_sum_L6] at hw
      refine lv_iload hx hb dX0_sum_6 (lv_at hl 4 rfl) ?_
      refine lv_aload_n hx hb dX0_sum_8 rfl (lv_at hl 0 rfl) ?_
      refine q_callVi (As := []) (rest := [.int x7]) (wr := []) [0, 1, 2, 3] [] ⟨hx, hb, hml, hown, hts⟩ (c_S_cells l D g q kS vS bS llS lvS lhS mvS  _ hw _) (cwV 0 hts gX0_sum_X0_cells rfl rfl rfl (by decide +kernel) ⟨Nat.le_of_ble_eq_true rfl, Nat.le_of_ble_eq_true rfl⟩) (va_recv hK hP (ci := 0) (q0 := 0) rfl rfl) hK hP hD hS hA rfl rfl rfl (by decide) (by decide) (by decide) rfl hl.1 rfl (Nat.le_of_ble_eq_true rfl) dX0_sum_9 ⟨Nat.zero_le _, Nat.zero_le _⟩ (fun r_1 u H locs hw hP hD hS => ?_)
      try dsimp only at hw
      replace hP : va_P D vwCl (wS g q kS vS bS llS lvS lhS mvS) H := hP
      replace hD : va_D A (wS g q kS vS bS llS lvS lhS mvS) := hD
      refine lv_icmp_ge (tgt := 44) hx hb dX0_sum_12 (by decide) (fun c_2 => ?_) (fun c_2 => ?_)
      · replace hw := hw.1 c_2
        refine lv_lload hx hb dX0_sum_44 (lv_at hl 3 rfl) ?_
        exact q_lret () hx hb hr hlocks hK dX0_sum_46 hS hP hD hw
      · replace hw := hw.2 c_2
        refine lv_aload_n hx hb dX0_sum_15 rfl (lv_at hl 0 rfl) ?_
        refine lv_iload hx hb dX0_sum_16 (lv_at hl 4 rfl) ?_
        refine lv_lload_n hx hb dX0_sum_18 rfl (lv_at hl 1 rfl) ?_
        refine lv_lload_n hx hb dX0_sum_19 rfl (lv_at hl 2 rfl) ?_
        refine q_callVi (As := [.int x7, .long x1, .long x3]) (rest := []) (wr := []) [0, 1, 2, 3] [] ⟨hx, hb, hml, hown, hts⟩ (c_S_isHeldBetween l D g q kS vS bS llS lvS lhS mvS x7 x1 x3 _ hw _) (cwV 3 hts gX0_sum_X0_isHeldBetween rfl rfl rfl (by decide +kernel) ⟨Nat.le_of_ble_eq_true rfl, Nat.le_of_ble_eq_true rfl⟩) (va_recv hK hP (ci := 0) (q0 := 0) rfl rfl) hK hP hD hS hA rfl rfl rfl (by decide) (by decide) (by decide) rfl hl.1 rfl (Nat.le_of_ble_eq_true rfl) dX0_sum_20 ⟨Nat.zero_le _, Nat.zero_le _⟩ (fun r_3 u H locs hw hP hD hS => ?_)
        try dsimp only at hw
        replace hP : va_P D vwCl (wS g q kS vS bS llS lvS lhS mvS) H := hP
        replace hD : va_D A (wS g q kS vS bS llS lvS lhS mvS) := hD
        refine lv_if_eq (tgt := 38) hx hb dX0_sum_23 (by decide) (fun c_4 => ?_) (fun c_4 => ?_)
        · replace hw := hw.1 c_4
          refine lv_iinc (v := (x7 + 1)) (lv' := [(7, .int (x7 + 1)), (0, .ref (g 0)), (1, .long x1), (3, .long x3), (5, .long x5)]) hx hb dX0_sum_38 hl (k := 4) rfl rfl (by decide) rfl (fun ls hl => ?_)
          refine lv_goto (tgt := 6) hx hb dX0_sum_41 (by decide) ?_
          exact ih x5 (x7 + 1) hw _ _ ls hP hD hS (lv_sub hl [1, 2, 3, 4, 0] rfl)
        · replace hw := hw.2 c_4
          refine lv_lload hx hb dX0_sum_26 (lv_at hl 3 rfl) ?_
          refine lv_aload_n hx hb dX0_sum_28 rfl (lv_at hl 0 rfl) ?_
          refine va_get (D := D) (ci := 0) (v := .ref (g 2)) (C := RX0) (T := TX0) (N := 7) hx hb hts (fun w h => List.mem_cons_of_mem _ (iX0 w h)) hown hK hP 0 rfl rfl 1 (by decide) hf_values (fun _ h9 => h9) rfl dX0_sum_29 ?_
          refine lv_iload hx hb dX0_sum_32 (lv_at hl 4 rfl) ?_
          obtain ⟨hi_5, hw⟩ := hw
          refine va_lald hx hb hK hP 2 1 rfl rfl hi_5 dX0_sum_34 ?_
          refine lv_ladd hx hb dX0_sum_35 ?_
          refine lv_lstore (lv' := [(5, .long (x5 + (vS x7.toNatClampNeg))), (0, .ref (g 0)), (1, .long x1), (3, .long x3), (7, .int x7)]) hx hb dX0_sum_36 hl (by decide) rfl (fun ls hl => ?_)
          refine lv_iinc (v := (x7 + 1)) (lv' := [(7, .int (x7 + 1)), (5, .long (x5 + (vS x7.toNatClampNeg))), (0, .ref (g 0)), (1, .long x1), (3, .long x3)]) hx hb dX0_sum_38 hl (k := 4) rfl rfl (by decide) rfl (fun ls hl => ?_)
          refine lv_goto (tgt := 6) hx hb dX0_sum_41 (by decide) ?_
          exact ih (x5 + (vS x7.toNatClampNeg)) (x7 + 1) hw _ _ ls hP hD hS (lv_sub hl [2, 3, 4, 1, 0] rfl)
  unfold wp_S_sum at hw
  refine lv_lconst (v := 0) hx hb dX0_sum_0 (by decide) ?_
  refine lv_lstore (lv' := [(5, .long 0), (0, .ref (g 0)), (1, .long a1), (3, .long a3)]) hx hb dX0_sum_1 hl (by decide) rfl (fun ls hl => ?_)
  refine lv_iconst (v := 0) hx hb dX0_sum_3 (by decide) ?_
  refine lv_istore (lv' := [(7, .int 0), (5, .long 0), (0, .ref (g 0)), (1, .long a1), (3, .long a3)]) hx hb dX0_sum_4 hl (by decide) rfl (fun ls hl => ?_)
  obtain ⟨n0, hw⟩ := hw
  exact L6 a1 a3 n0 0 0 hw _ _ ls hP hD hS (lv_sub hl [2, 3, 4, 1, 0] rfl)
set_option maxHeartbeats 4000000 in
set_option maxRecDepth 100000 in
theorem c_S_size (l : Launch) (D : va_G) (g : Nat → Nat) (q : Nat → ClassId) (kS : Nat → Int64) (vS : Nat → Int64) (bS : Nat → Int32) (llS : Int32) (lvS : Int32) (lhS : Int32) (mvS : Int64) (post : Int32 → Prop) (hw : wp_S_size kS lvS post) (sz : Nat) : Met l yX0_size wsX0_size ({ frames := 2, cells := 0, slots := 0, locals := 40 }) (qP D vwCl (tS q) (wS g q kS vS bS llS lvS lhS mvS) sz [.ref (g 0)]) (va_Qi (fun r (_ : Unit) => post r) (qB D vwCl (tS q) (fun _ : Unit => (wS g q kS vS bS llS lvS lhS mvS)) (va_A (wS g q kS vS bS llS lvS lhS mvS) sz)) (va_A (wS g q kS vS bS llS lvS lhS mvS) sz)) 0 0 (va_A (wS g q kS vS bS llS lvS lhS mvS) sz) := by
  refine q_enter (cc := cX0_size) (maxL := 1) (ret := (some .int)) (fun A => va_Qi (fun r (_ : Unit) => post r) (qB D vwCl (tS q) (fun _ : Unit => (wS g q kS vS bS llS lvS lhS mvS)) A) A) (by decide +kernel) rfl (Nat.le_of_ble_eq_true rfl) ?_
  intro p e s m below meth c A ls hx hb hr hml hown hts hlocks hname hP hK hD hA hl
  replace hown : s.vm.findClass RX0 = some m.cls := hown
  replace hl : lv_has ls 1 [(0, .ref (g 0))] := hl
  have hS : va_S A s.heap s.heap [] := va_S.rf
  unfold wp_S_size at hw
  refine lv_aload_n hx hb dX0_size_0 rfl (lv_at hl 0 rfl) ?_
  refine lv_iconst (v := 0) hx hb dX0_size_1 (by decide) ?_
  refine lv_aload_n hx hb dX0_size_2 rfl (lv_at hl 0 rfl) ?_
  refine q_callVi (As := []) (rest := [.int 0, .ref (g 0)]) (wr := []) [0, 1, 2, 3] [] ⟨hx, hb, hml, hown, hts⟩ (c_S_cells l D g q kS vS bS llS lvS lhS mvS  _ hw _) (cwV 0 hts gX0_size_X0_cells rfl rfl rfl (by decide +kernel) ⟨Nat.le_of_ble_eq_true rfl, Nat.le_of_ble_eq_true rfl⟩) (va_recv hK hP (ci := 0) (q0 := 0) rfl rfl) hK hP hD hS hA rfl rfl rfl (by decide) (by decide) (by decide) rfl hl.1 rfl (Nat.le_of_ble_eq_true rfl) dX0_size_3 ⟨Nat.zero_le _, Nat.zero_le _⟩ (fun r_1 u H locs hw hP hD hS => ?_)
  try dsimp only at hw
  replace hP : va_P D vwCl (wS g q kS vS bS llS lvS lhS mvS) H := hP
  replace hD : va_D A (wS g q kS vS bS llS lvS lhS mvS) := hD
  refine q_callVi (As := [.int 0, .int r_1]) (rest := []) (wr := []) [0, 1, 2, 3] [] ⟨hx, hb, hml, hown, hts⟩ (c_S_keysAmong l D g q kS vS bS llS lvS lhS mvS 0 r_1 _ hw _) (cwV 2 hts gX0_size_X0_keysAmong rfl rfl rfl (by decide +kernel) ⟨Nat.le_of_ble_eq_true rfl, Nat.le_of_ble_eq_true rfl⟩) (va_recv hK hP (ci := 0) (q0 := 0) rfl rfl) hK hP hD hS hA rfl rfl rfl (by decide) (by decide) (by decide) rfl hl.1 rfl (Nat.le_of_ble_eq_true rfl) dX0_size_6 ⟨Nat.zero_le _, Nat.zero_le _⟩ (fun r_2 u H locs hw hP hD hS => ?_)
  try dsimp only at hw
  replace hP : va_P D vwCl (wS g q kS vS bS llS lvS lhS mvS) H := hP
  replace hD : va_D A (wS g q kS vS bS llS lvS lhS mvS) := hD
  exact q_iret () hx hb hr hlocks hK dX0_size_9 hS hP hD hw
set_option maxHeartbeats 4000000 in
set_option maxRecDepth 100000 in
theorem c_S_cellKey (l : Launch) (D : va_G) (g : Nat → Nat) (q : Nat → ClassId) (kS : Nat → Int64) (vS : Nat → Int64) (bS : Nat → Int32) (llS : Int32) (lvS : Int32) (lhS : Int32) (mvS : Int64) (a1 : Int32) (post : Int64 → Prop) (hw : wp_S_cellKey kS lvS a1 post) (sz : Nat) : Met l yX0_cellKey wsX0_cellKey ({ frames := 2, cells := 0, slots := 0, locals := 40 }) (qP D vwCl (tS q) (wS g q kS vS bS llS lvS lhS mvS) sz [.ref (g 0), .int a1]) (va_Ql (fun r (_ : Unit) => post r) (qB D vwCl (tS q) (fun _ : Unit => (wS g q kS vS bS llS lvS lhS mvS)) (va_A (wS g q kS vS bS llS lvS lhS mvS) sz)) (va_A (wS g q kS vS bS llS lvS lhS mvS) sz)) 0 0 (va_A (wS g q kS vS bS llS lvS lhS mvS) sz) := by
  refine q_enter (cc := cX0_cellKey) (maxL := 2) (ret := (some .long)) (fun A => va_Ql (fun r (_ : Unit) => post r) (qB D vwCl (tS q) (fun _ : Unit => (wS g q kS vS bS llS lvS lhS mvS)) A) A) (by decide +kernel) rfl (Nat.le_of_ble_eq_true rfl) ?_
  intro p e s m below meth c A ls hx hb hr hml hown hts hlocks hname hP hK hD hA hl
  replace hown : s.vm.findClass RX0 = some m.cls := hown
  replace hl : lv_has ls 2 [(0, .ref (g 0)), (1, .int a1)] := hl
  have hS : va_S A s.heap s.heap [] := va_S.rf
  have hf_keys := hts _ (List.mem_cons_of_mem _ tfl_X0_9)
  unfold wp_S_cellKey at hw
  refine lv_iload_n hx hb dX0_cellKey_0 rfl (lv_at hl 1 rfl) ?_
  refine lv_if_lt (tgt := 12) hx hb dX0_cellKey_1 (by decide) (fun c_1 => ?_) (fun c_1 => ?_)
  · replace hw := hw.1 c_1
    refine lv_ldc2 (v := NOK) hx hb hown (hts _ (List.mem_cons_of_mem _ tcn_X0_13)) dX0_cellKey_12 ?_
    refine lv_goto (tgt := 24) hx hb dX0_cellKey_15 (by decide) ?_
    exact q_lret () hx hb hr hlocks hK dX0_cellKey_24 hS hP hD hw
  · replace hw := hw.2 c_1
    refine lv_iload_n hx hb dX0_cellKey_4 rfl (lv_at hl 1 rfl) ?_
    refine lv_aload_n hx hb dX0_cellKey_5 rfl (lv_at hl 0 rfl) ?_
    refine q_callVi (As := []) (rest := [.int a1]) (wr := []) [0, 1, 2, 3] [] ⟨hx, hb, hml, hown, hts⟩ (c_S_cells l D g q kS vS bS llS lvS lhS mvS  _ hw _) (cwV 0 hts gX0_cellKey_X0_cells rfl rfl rfl (by decide +kernel) ⟨Nat.le_of_ble_eq_true rfl, Nat.le_of_ble_eq_true rfl⟩) (va_recv hK hP (ci := 0) (q0 := 0) rfl rfl) hK hP hD hS hA rfl rfl rfl (by decide) (by decide) (by decide) rfl hl.1 rfl (Nat.le_of_ble_eq_true rfl) dX0_cellKey_6 ⟨Nat.zero_le _, Nat.zero_le _⟩ (fun r_2 u H locs hw hP hD hS => ?_)
    try dsimp only at hw
    replace hP : va_P D vwCl (wS g q kS vS bS llS lvS lhS mvS) H := hP
    replace hD : va_D A (wS g q kS vS bS llS lvS lhS mvS) := hD
    refine lv_icmp_lt (tgt := 18) hx hb dX0_cellKey_9 (by decide) (fun c_3 => ?_) (fun c_3 => ?_)
    · replace hw := hw.1 c_3
      refine lv_aload_n hx hb dX0_cellKey_18 rfl (lv_at hl 0 rfl) ?_
      refine va_get (D := D) (ci := 0) (v := .ref (g 1)) (C := RX0) (T := TX0) (N := 7) hx hb hts (fun w h => List.mem_cons_of_mem _ (iX0 w h)) hown hK hP 0 rfl rfl 0 (by decide) hf_keys (fun _ h9 => h9) rfl dX0_cellKey_19 ?_
      refine lv_iload_n hx hb dX0_cellKey_22 rfl (lv_at hl 1 rfl) ?_
      obtain ⟨hi_4, hw⟩ := hw
      refine va_lald hx hb hK hP 1 0 rfl rfl hi_4 dX0_cellKey_23 ?_
      exact q_lret () hx hb hr hlocks hK dX0_cellKey_24 hS hP hD hw
    · replace hw := hw.2 c_3
      refine lv_ldc2 (v := NOK) hx hb hown (hts _ (List.mem_cons_of_mem _ tcn_X0_13)) dX0_cellKey_12 ?_
      refine lv_goto (tgt := 24) hx hb dX0_cellKey_15 (by decide) ?_
      exact q_lret () hx hb hr hlocks hK dX0_cellKey_24 hS hP hD hw
set_option maxHeartbeats 4000000 in
set_option maxRecDepth 100000 in
theorem c_S_nodesOfTree (l : Launch) (D : va_G) (a0 : Int32) (post : Int32 → Prop) (hw : wp_S_nodesOfTree a0 post) (sz : Nat) : Met l yX0_nodesOfTree wsX0_nodesOfTree ({ frames := 0, cells := 0, slots := 0, locals := 0 }) (qP D vwCl [] [] sz [.int a0]) (va_Qi (fun r (_ : Unit) => post r) (qB D vwCl [] (fun _ : Unit => []) (va_A [] sz)) (va_A [] sz)) 0 0 (va_A [] sz) := by
  refine q_enter (cc := cX0_nodesOfTree) (maxL := 1) (ret := (some .int)) (fun A => va_Qi (fun r (_ : Unit) => post r) (qB D vwCl [] (fun _ : Unit => []) A) A) (by decide +kernel) rfl (Nat.le_of_ble_eq_true rfl) ?_
  intro p e s m below meth c A ls hx hb hr hml hown hts hlocks hname hP hK hD hA hl
  replace hown : s.vm.findClass RX0 = some m.cls := hown
  replace hl : lv_has ls 1 [(0, .int a0)] := hl
  have hS : va_S A s.heap s.heap [] := va_S.rf
  unfold wp_S_nodesOfTree at hw
  refine lv_iconst (v := 1) hx hb dX0_nodesOfTree_0 (by decide) ?_
  refine lv_iload_n hx hb dX0_nodesOfTree_1 rfl (lv_at hl 0 rfl) ?_
  refine lv_ishl hx hb dX0_nodesOfTree_2 ?_
  refine lv_iconst (v := 1) hx hb dX0_nodesOfTree_3 (by decide) ?_
  refine lv_isub hx hb dX0_nodesOfTree_4 ?_
  exact q_iret () hx hb hr hlocks hK dX0_nodesOfTree_5 hS hP hD hw
set_option maxHeartbeats 4000000 in
set_option maxRecDepth 100000 in
theorem c_S_placeInTree (l : Launch) (D : va_G) : ∀ (n : Nat) (a0 : Int32) (a1 : Int32) (post : Int32 → Prop), wp_S_placeInTree n a0 a1 post → ∀ (sz : Nat), Met l yX0_placeInTree wsX0_placeInTree ({ frames := n + 2, cells := 0, slots := 0, locals := 60 * n + 60 }) (qP D vwCl [] [] sz [.int a0, .int a1]) (va_Qi (fun r (_ : Unit) => post r) (qB D vwCl [] (fun _ : Unit => []) (va_A [] sz)) (va_A [] sz)) 0 0 (va_A [] sz) := by
  intro n
  induction n with
  | zero => intro a0 a1 post hw; exact False.elim (show False from hw)
  | succ n ih =>
    intro a0 a1 post hw sz
    refine q_enter (cc := cX0_placeInTree) (maxL := 7) (ret := (some .int)) (fun A => va_Qi (fun r (_ : Unit) => post r) (qB D vwCl [] (fun _ : Unit => []) A) A) (by decide +kernel) rfl (Nat.le_of_ble_eq_true rfl) ?_
    intro p e s m below meth c A ls hx hb hr hml hown hts hlocks hname hP hK hD hA hl
    replace hown : s.vm.findClass RX0 = some m.cls := hown
    replace hl : lv_has ls 7 [(0, .int a0), (1, .int a1)] := hl
    have hS : va_S A s.heap s.heap [] := va_S.rf
    rw [wp_S_placeInTree] at hw
    refine lv_iload_n hx hb dX0_placeInTree_0 rfl (lv_at hl 1 rfl) ?_
    refine lv_iconst (v := 1) hx hb dX0_placeInTree_1 (by decide) ?_
    refine lv_icmp_gt (tgt := 7) hx hb dX0_placeInTree_2 (by decide) (fun c_1 => ?_) (fun c_1 => ?_)
    · replace hw := hw.1 c_1
      refine lv_iload_n hx hb dX0_placeInTree_7 rfl (lv_at hl 1 rfl) ?_
      refine lv_iconst (v := 1) hx hb dX0_placeInTree_8 (by decide) ?_
      refine lv_iadd hx hb dX0_placeInTree_9 ?_
      refine lv_iconst (v := 2) hx hb dX0_placeInTree_10 (by decide) ?_
      refine lv_idiv hx hb dX0_placeInTree_11 (by decide) ?_
      refine lv_istore_n (lv' := [(2, .int ((a1 + 1) / 2)), (0, .int a0), (1, .int a1)]) hx hb dX0_placeInTree_12 rfl hl (by decide) rfl (fun ls hl => ?_)
      refine lv_iload_n hx hb dX0_placeInTree_13 rfl (lv_at hl 2 rfl) ?_
      refine lv_iload_n hx hb dX0_placeInTree_14 rfl (lv_at hl 0 rfl) ?_
      refine lv_isub hx hb dX0_placeInTree_15 ?_
      refine lv_istore_n (lv' := [(3, .int (a1 - ((a1 + 1) / 2))), (2, .int ((a1 + 1) / 2)), (0, .int a0), (1, .int a1)]) hx hb dX0_placeInTree_16 rfl hl (by decide) rfl (fun ls hl => ?_)
      refine lv_iload_n hx hb dX0_placeInTree_17 rfl (lv_at hl 2 rfl) ?_
      refine q_callSi (As := [.int a0]) (rest := []) (wr := []) [] [] ⟨hx, hb, hml, hown, hts⟩ (c_S_depthOf l D a0 _ hw _) (va_cwS 1 hts gX0_placeInTree_X0_depthOf rfl rfl rfl (by decide +kernel) ⟨by show 0 + 1 ≤ (n + 1) + 2; omega, by show 8 + (3 + 11) + 0 ≤ 60 * (n + 1) + 60; omega⟩) hK hP hD hS hA rfl rfl rfl (by decide) (by decide) (by decide) rfl hl.1 rfl (Nat.le_of_ble_eq_true rfl) dX0_placeInTree_18 ⟨Nat.zero_le _, Nat.zero_le _⟩ (fun r_2 u H locs hw hP hD hS => ?_)
      try dsimp only at hw
      replace hP : va_P D vwCl [] H := hP
      replace hD : va_D A [] := hD
      refine lv_iload_n hx hb dX0_placeInTree_21 rfl (lv_at hl 1 rfl) ?_
      refine lv_isub hx hb dX0_placeInTree_22 ?_
      refine lv_istore (lv' := [(4, .int (r_2 - ((a1 + 1) / 2))), (3, .int (a1 - ((a1 + 1) / 2))), (2, .int ((a1 + 1) / 2)), (0, .int a0), (1, .int a1)]) hx hb dX0_placeInTree_23 hl (by decide) rfl (fun ls hl => ?_)
      refine lv_iload hx hb dX0_placeInTree_25 (lv_at hl 0 rfl) ?_
      refine lv_if_ge (tgt := 36) hx hb dX0_placeInTree_27 (by decide) (fun c_3 => ?_) (fun c_3 => ?_)
      · replace hw := hw.1 c_3
        refine lv_iload_n hx hb dX0_placeInTree_36 rfl (lv_at hl 3 rfl) ?_
        refine lv_iload hx hb dX0_placeInTree_37 (lv_at hl 0 rfl) ?_
        refine lv_ishr hx hb dX0_placeInTree_39 ?_
        refine lv_iconst (v := 1) hx hb dX0_placeInTree_40 (by decide) ?_
        refine lv_iload_n hx hb dX0_placeInTree_41 rfl (lv_at hl 2 rfl) ?_
        refine lv_ishl hx hb dX0_placeInTree_42 ?_
        refine lv_isub hx hb dX0_placeInTree_43 ?_
        refine lv_istore (lv' := [(5, .int ((a0 >>> ((r_2 - ((a1 + 1) / 2)) &&& 31)) - ((1 : Int32) <<< (((a1 + 1) / 2) &&& 31)))), (4, .int (r_2 - ((a1 + 1) / 2))), (3, .int (a1 - ((a1 + 1) / 2))), (2, .int ((a1 + 1) / 2)), (0, .int a0), (1, .int a1)]) hx hb dX0_placeInTree_44 hl (by decide) rfl (fun ls hl => ?_)
        refine lv_iconst (v := 1) hx hb dX0_placeInTree_46 (by decide) ?_
        refine lv_iload hx hb dX0_placeInTree_47 (lv_at hl 1 rfl) ?_
        refine lv_ishl hx hb dX0_placeInTree_49 ?_
        refine lv_iload_n hx hb dX0_placeInTree_50 rfl (lv_at hl 4 rfl) ?_
        refine lv_iconst (v := 1) hx hb dX0_placeInTree_51 (by decide) ?_
        refine lv_iload hx hb dX0_placeInTree_52 (lv_at hl 1 rfl) ?_
        refine lv_ishl hx hb dX0_placeInTree_54 ?_
        obtain ⟨hz_4, hw⟩ := hw
        refine lv_irem hx hb dX0_placeInTree_55 hz_4 ?_
        refine lv_iadd hx hb dX0_placeInTree_56 ?_
        refine lv_istore (lv' := [(6, .int (((1 : Int32) <<< ((r_2 - ((a1 + 1) / 2)) &&& 31)) + (a0 - a0 / ((1 : Int32) <<< ((r_2 - ((a1 + 1) / 2)) &&& 31)) * ((1 : Int32) <<< ((r_2 - ((a1 + 1) / 2)) &&& 31))))), (5, .int ((a0 >>> ((r_2 - ((a1 + 1) / 2)) &&& 31)) - ((1 : Int32) <<< (((a1 + 1) / 2) &&& 31)))), (4, .int (r_2 - ((a1 + 1) / 2))), (3, .int (a1 - ((a1 + 1) / 2))), (2, .int ((a1 + 1) / 2)), (0, .int a0), (1, .int a1)]) hx hb dX0_placeInTree_57 hl (by decide) rfl (fun ls hl => ?_)
        refine lv_iload_n hx hb dX0_placeInTree_59 rfl (lv_at hl 4 rfl) ?_
        refine q_callSi (As := [.int ((a1 + 1) / 2)]) (rest := []) (wr := []) [] [] ⟨hx, hb, hml, hown, hts⟩ (c_S_nodesOfTree l D ((a1 + 1) / 2) _ hw _) (va_cwS 1 hts gX0_placeInTree_X0_nodesOfTree rfl rfl rfl (by decide +kernel) ⟨by show 0 + 1 ≤ (n + 1) + 2; omega, by show 8 + (1 + 11) + 0 ≤ 60 * (n + 1) + 60; omega⟩) hK hP hD hS hA rfl rfl rfl (by decide) (by decide) (by decide) rfl hl.1 rfl (Nat.le_of_ble_eq_true rfl) dX0_placeInTree_60 ⟨Nat.zero_le _, Nat.zero_le _⟩ (fun r_5 u H locs hw hP hD hS => ?_)
        try dsimp only at hw
        replace hP : va_P D vwCl [] H := hP
        replace hD : va_D A [] := hD
        refine lv_iload hx hb dX0_placeInTree_63 (lv_at hl 1 rfl) ?_
        refine lv_iload_n hx hb dX0_placeInTree_65 rfl (lv_at hl 3 rfl) ?_
        refine q_callSi (As := [.int (a1 - ((a1 + 1) / 2))]) (rest := [.int ((a0 >>> ((r_2 - ((a1 + 1) / 2)) &&& 31)) - ((1 : Int32) <<< (((a1 + 1) / 2) &&& 31))), .int r_5]) (wr := []) [] [] ⟨hx, hb, hml, hown, hts⟩ (c_S_nodesOfTree l D (a1 - ((a1 + 1) / 2)) _ hw _) (va_cwS 1 hts gX0_placeInTree_X0_nodesOfTree rfl rfl rfl (by decide +kernel) ⟨by show 0 + 1 ≤ (n + 1) + 2; omega, by show 8 + (1 + 11) + 0 ≤ 60 * (n + 1) + 60; omega⟩) hK hP hD hS hA rfl rfl rfl (by decide) (by decide) (by decide) rfl hl.1 rfl (Nat.le_of_ble_eq_true rfl) dX0_placeInTree_66 ⟨Nat.zero_le _, Nat.zero_le _⟩ (fun r_6 u H locs hw hP hD hS => ?_)
        try dsimp only at hw
        replace hP : va_P D vwCl [] H := hP
        replace hD : va_D A [] := hD
        refine lv_imul hx hb dX0_placeInTree_69 ?_
        refine lv_iadd hx hb dX0_placeInTree_70 ?_
        refine lv_iload hx hb dX0_placeInTree_71 (lv_at hl 0 rfl) ?_
        refine lv_iload_n hx hb dX0_placeInTree_73 rfl (lv_at hl 3 rfl) ?_
        refine q_callSi (As := [.int (((1 : Int32) <<< ((r_2 - ((a1 + 1) / 2)) &&& 31)) + (a0 - a0 / ((1 : Int32) <<< ((r_2 - ((a1 + 1) / 2)) &&& 31)) * ((1 : Int32) <<< ((r_2 - ((a1 + 1) / 2)) &&& 31)))), .int (a1 - ((a1 + 1) / 2))]) (rest := [.int (r_5 + (((a0 >>> ((r_2 - ((a1 + 1) / 2)) &&& 31)) - ((1 : Int32) <<< (((a1 + 1) / 2) &&& 31))) * r_6))]) (wr := []) [] [] ⟨hx, hb, hml, hown, hts⟩ (ih (((1 : Int32) <<< ((r_2 - ((a1 + 1) / 2)) &&& 31)) + (a0 - a0 / ((1 : Int32) <<< ((r_2 - ((a1 + 1) / 2)) &&& 31)) * ((1 : Int32) <<< ((r_2 - ((a1 + 1) / 2)) &&& 31)))) (a1 - ((a1 + 1) / 2)) _ hw _) (va_cwS 2 hts gX0_placeInTree_X0_placeInTree rfl rfl rfl (by decide +kernel) ⟨Nat.le_refl _, by show 8 + (7 + 11) + (60 * n + 60) ≤ 60 * (n + 1) + 60; omega⟩) hK hP hD hS hA rfl rfl rfl (by decide) (by decide) (by decide) rfl hl.1 rfl (Nat.le_of_ble_eq_true rfl) dX0_placeInTree_74 ⟨Nat.zero_le _, Nat.zero_le _⟩ (fun r_7 u H locs hw hP hD hS => ?_)
        try dsimp only at hw
        replace hP : va_P D vwCl [] H := hP
        replace hD : va_D A [] := hD
        refine lv_iadd hx hb dX0_placeInTree_77 ?_
        exact q_iret () hx hb hr hlocks hK dX0_placeInTree_78 hS hP hD hw
      · replace hw := hw.2 c_3
        refine lv_iload_n hx hb dX0_placeInTree_30 rfl (lv_at hl 3 rfl) ?_
        refine lv_iload_n hx hb dX0_placeInTree_31 rfl (lv_at hl 2 rfl) ?_
        refine q_callSi (As := [.int a0, .int ((a1 + 1) / 2)]) (rest := []) (wr := []) [] [] ⟨hx, hb, hml, hown, hts⟩ (ih a0 ((a1 + 1) / 2) _ hw _) (va_cwS 2 hts gX0_placeInTree_X0_placeInTree rfl rfl rfl (by decide +kernel) ⟨Nat.le_refl _, by show 8 + (7 + 11) + (60 * n + 60) ≤ 60 * (n + 1) + 60; omega⟩) hK hP hD hS hA rfl rfl rfl (by decide) (by decide) (by decide) rfl hl.1 rfl (Nat.le_of_ble_eq_true rfl) dX0_placeInTree_32 ⟨Nat.zero_le _, Nat.zero_le _⟩ (fun r_8 u H locs hw hP hD hS => ?_)
        try dsimp only at hw
        replace hP : va_P D vwCl [] H := hP
        replace hD : va_D A [] := hD
        exact q_iret () hx hb hr hlocks hK dX0_placeInTree_35 hS hP hD hw
    · replace hw := hw.2 c_1
      refine lv_iconst (v := 0) hx hb dX0_placeInTree_5 (by decide) ?_
      exact q_iret () hx hb hr hlocks hK dX0_placeInTree_6 hS hP hD hw
