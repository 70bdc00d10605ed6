set_option maxHeartbeats 4000000 in
set_option maxRecDepth 100000 in
theorem c_M_segments (l : Launch) (D : va_G) (g : Nat → Nat) (q : Nat → ClassId) (leM : Int32) (ceM : Int32) (fM : Nat → Int32) (kM : Nat → Int64) (vM : Nat → Int64) (wiM : Int32) (moM : Int64) (waM : Int32) (wkM : Nat → Int64) (wvM : Nat → Int64) (post : Int32 → Prop) (hw : wp_M_segments ceM post) (sz : Nat) : Met l yX1_segments wsX1_segments ({ frames := 0, cells := 0, slots := 0, locals := 0 }) (qP D vwCl (tM q) (wM g q leM ceM fM kM vM wiM moM waM wkM wvM) sz [.ref (g 0)]) (va_Qi (fun r (_ : Unit) => post r) (qB D vwCl (tM q) (fun _ : Unit => (wM g q leM ceM fM kM vM wiM moM waM wkM wvM)) (va_A (wM g q leM ceM fM kM vM wiM moM waM wkM wvM) sz)) (va_A (wM g q leM ceM fM kM vM wiM moM waM wkM wvM) sz)) 0 0 (va_A (wM g q leM ceM fM kM vM wiM moM waM wkM wvM) sz) := by
  refine q_enter (cc := cX1_segments) (maxL := 1) (ret := (some .int)) (fun A => va_Qi (fun r (_ : Unit) => post r) (qB D vwCl (tM q) (fun _ : Unit => (wM g q leM ceM fM kM vM wiM moM waM wkM wvM)) A) A) (by decide +kernel) rfl (Nat.le_of_ble_eq_true rfl) ?_
  intro p e s m below meth c A ls hx hb hr hml hown hts hlocks hname hP hK hD hA hl
  replace hown : s.vm.findClass RX1 = some m.cls := hown
  replace hl : lv_has ls 1 [(0, .ref (g 0))] := hl
  have hS : va_S A s.heap s.heap [] := va_S.rf
  have hf_cells := hts _ (List.mem_cons_of_mem _ tfl_X1_33)
  unfold wp_M_segments at hw
  refine lv_aload_n hx hb dX1_segments_0 rfl (lv_at hl 0 rfl) ?_
  refine va_get (D := D) (ci := 1) (v := .int ceM) (C := RX1) (T := TX1) (N := 10) hx hb hts (fun w h => List.mem_cons_of_mem _ (iX1 w h)) hown hK hP 0 rfl rfl 1 (by decide) hf_cells (fun _ h9 => h9) rfl dX1_segments_1 ?_
  refine lv_bipush (v := 8) hx hb dX1_segments_4 (by decide) ?_
  refine lv_idiv hx hb dX1_segments_6 (by decide) ?_
  exact q_iret () hx hb hr hlocks hK dX1_segments_7 hS hP hD hw
set_option maxHeartbeats 4000000 in
set_option maxRecDepth 100000 in
theorem c_M_levels (l : Launch) (D : va_G) (g : Nat → Nat) (q : Nat → ClassId) (leM : Int32) (ceM : Int32) (fM : Nat → Int32) (kM : Nat → Int64) (vM : Nat → Int64) (wiM : Int32) (moM : Int64) (waM : Int32) (wkM : Nat → Int64) (wvM : Nat → Int64) (post : Int32 → Prop) (hw : wp_M_levels ceM post) (sz : Nat) : Met l yX1_levels wsX1_levels ({ frames := 1, cells := 0, slots := 0, locals := 20 }) (qP D vwCl (tM q) (wM g q leM ceM fM kM vM wiM moM waM wkM wvM) sz [.ref (g 0)]) (va_Qi (fun r (_ : Unit) => post r) (qB D vwCl (tM q) (fun _ : Unit => (wM g q leM ceM fM kM vM wiM moM waM wkM wvM)) (va_A (wM g q leM ceM fM kM vM wiM moM waM wkM wvM) sz)) (va_A (wM g q leM ceM fM kM vM wiM moM waM wkM wvM) sz)) 0 0 (va_A (wM g q leM ceM fM kM vM wiM moM waM wkM wvM) sz) := by
  refine q_enter (cc := cX1_levels) (maxL := 3) (ret := (some .int)) (fun A => va_Qi (fun r (_ : Unit) => post r) (qB D vwCl (tM q) (fun _ : Unit => (wM g q leM ceM fM kM vM wiM moM waM wkM wvM)) A) A) (by decide +kernel) rfl (Nat.le_of_ble_eq_true rfl) ?_
  intro p e s m below meth c A ls hx hb hr hml hown hts hlocks hname hP hK hD hA hl
  replace hown : s.vm.findClass RX1 = some m.cls := hown
  replace hl : lv_has ls 3 [(0, .ref (g 0))] := hl
  have hS : va_S A s.heap s.heap [] := va_S.rf
  have L7 : ∀ (n : Nat) (x1 : Int32) (x2 : Int32), wp_M_levels_L7 ceM post n x1 x2 → ∀ (H : Heap) (locs : List Loc) (ls : Array Slot), va_P D vwCl (wM g q leM ceM fM kM vM wiM moM waM wkM wvM) H → va_D A (wM g q leM ceM fM kM vM wiM moM waM wkM wvM) → va_S A s.heap H locs → lv_has ls 3 [(1, .int x1), (2, .int x2)] → W p l e { frames := 1, cells := 0, slots := 0, locals := 20 } s m ([.ref (g 0)] : List Value).toArray below meth c H locs 0 0 (MQ below (va_Qi (fun r (_ : Unit) => post r) (qB D vwCl (tM q) (fun _ : Unit => (wM g q leM ceM fM kM vM wiM moM waM wkM wvM)) A) A) ([.ref (g 0)] : List Value).toArray s 0 0 A) (F0 m 7 ls []) := by
    intro n
    induction n with
    | zero => intro x1 x2 hw; exact False.elim (show False from hw)
    | succ n ih =>
      intro x1 x2 hw H locs ls hP hD hS hl
      rw [wp_M_levels_L7] at hw
      refine lv_iload_n hx hb dX1_levels_7 rfl (lv_at hl 1 rfl) ?_
      refine lv_iconst (v := 1) hx hb dX1_levels_8 (by decide) ?_
      refine lv_icmp_le (tgt := 22) hx hb dX1_levels_9 (by decide) (fun c_2 => ?_) (fun c_2 => ?_)
      · replace hw := hw.1 c_2
        refine lv_iload_n hx hb dX1_levels_22 rfl (lv_at hl 0 rfl) ?_
        exact q_iret () hx hb hr hlocks hK dX1_levels_23 hS hP hD hw
      · replace hw := hw.2 c_2
        refine lv_iinc (v := (x1 + 1)) (lv' := [(1, .int (x1 + 1)), (2, .int x2)]) hx hb dX1_levels_12 hl (k := 0) rfl rfl (by decide) rfl (fun ls hl => ?_)
        refine lv_iload_n hx hb dX1_levels_15 rfl (lv_at hl 1 rfl) ?_
        refine lv_iconst (v := 2) hx hb dX1_levels_16 (by decide) ?_
        refine lv_idiv hx hb dX1_levels_17 (by decide) ?_
        refine lv_istore_n (lv' := [(2, .int (x2 / 2)), (1, .int (x1 + 1))]) hx hb dX1_levels_18 rfl hl (by decide) rfl (fun ls hl => ?_)
        refine lv_goto (tgt := 7) hx hb dX1_levels_19 (by decide) ?_
        exact ih (x1 + 1) (x2 / 2) hw _ _ ls hP hD hS (lv_sub hl [1, 0] rfl)
  unfold wp_M_levels at hw
  refine lv_iconst (v := 0) hx hb dX1_levels_0 (by decide) ?_
  refine lv_istore_n (lv' := [(1, .int 0), (0, .ref (g 0))]) hx hb dX1_levels_1 rfl hl (by decide) rfl (fun ls hl => ?_)
  refine lv_aload_n hx hb dX1_levels_2 rfl (lv_at hl 1 rfl) ?_
  refine q_callVi (As := []) (rest := []) (wr := []) [0, 1, 2, 3, 4, 5] [] ⟨hx, hb, hml, hown, hts⟩ (c_M_segments l D g q leM ceM fM kM vM wiM moM waM wkM wvM  _ hw _) (cwV 0 hts gX1_levels_X1_segments rfl rfl rfl (by decide +kernel) ⟨Nat.le_of_ble_eq_true rfl, Nat.le_of_ble_eq_true rfl⟩) (va_recv hK hP (ci := 1) (q0 := 0) rfl rfl) hK hP hD hS hA rfl rfl rfl (by decide) (by decide) (by decide) rfl hl.1 rfl (Nat.le_of_ble_eq_true rfl) dX1_levels_3 ⟨Nat.zero_le _, Nat.zero_le _⟩ (fun r_1 u H locs hw hP hD hS => ?_)
  try dsimp only at hw
  replace hP : va_P D vwCl (wM g q leM ceM fM kM vM wiM moM waM wkM wvM) H := hP
  replace hD : va_D A (wM g q leM ceM fM kM vM wiM moM waM wkM wvM) := hD
  refine lv_istore_n (lv' := [(2, .int r_1), (1, .int 0), (0, .ref (g 0))]) hx hb dX1_levels_6 rfl hl (by decide) rfl (fun ls hl => ?_)
  obtain ⟨n0, hw⟩ := hw
  exact L7  n0 0 r_1 hw _ _ ls hP hD hS (lv_sub hl [1, 0] rfl)
set_option maxHeartbeats 4000000 in
set_option maxRecDepth 100000 in
theorem c_M_greatest (l : Launch) (D : va_G) (g : Nat → Nat) (q : Nat → ClassId) (leM : Int32) (ceM : Int32) (fM : Nat → Int32) (kM : Nat → Int64) (vM : Nat → Int64) (wiM : Int32) (moM : Int64) (waM : Int32) (wkM : Nat → Int64) (wvM : Nat → Int64) (a1 : Int32) (a2 : Int32) (post : Int64 → Prop) (hw : wp_M_greatest fM kM a1 a2 post) (sz : Nat) : Met l yX1_greatest wsX1_greatest ({ frames := 0, cells := 0, slots := 0, locals := 0 }) (qP D vwCl (tM q) (wM g q leM ceM fM kM vM wiM moM waM wkM wvM) sz [.ref (g 0), .int a1, .int a2]) (va_Ql (fun r (_ : Unit) => post r) (qB D vwCl (tM q) (fun _ : Unit => (wM g q leM ceM fM kM vM wiM moM waM wkM wvM)) (va_A (wM g q leM ceM fM kM vM wiM moM waM wkM wvM) sz)) (va_A (wM g q leM ceM fM kM vM wiM moM waM wkM wvM) sz)) 0 0 (va_A (wM g q leM ceM fM kM vM wiM moM waM wkM wvM) sz) := by
  refine q_enter (cc := cX1_greatest) (maxL := 6) (ret := (some .long)) (fun A => va_Ql (fun r (_ : Unit) => post r) (qB D vwCl (tM q) (fun _ : Unit => (wM g q leM ceM fM kM vM wiM moM waM wkM wvM)) A) A) (by decide +kernel) rfl (Nat.le_of_ble_eq_true rfl) ?_
  intro p e s m below meth c A ls hx hb hr hml hown hts hlocks hname hP hK hD hA hl
  replace hown : s.vm.findClass RX1 = some m.cls := hown
  replace hl : lv_has ls 6 [(0, .ref (g 0)), (1, .int a1), (2, .int a2)] := hl
  have hS : va_S A s.heap s.heap [] := va_S.rf
  have hf_keys := hts _ (List.mem_cons_of_mem _ tfl_X1_13)
  have hf_full := hts _ (List.mem_cons_of_mem _ tfl_X1_7)
  have L10 : ∀ (x1 : Int32) (x2 : Int32) (n : Nat) (x3 : Int64) (x5 : Int32), wp_M_greatest_L10 fM kM x1 x2 post n x3 x5 → ∀ (H : Heap) (locs : List Loc) (ls : Array Slot), va_P D vwCl (wM g q leM ceM fM kM vM wiM moM waM wkM wvM) H → va_D A (wM g q leM ceM fM kM vM wiM moM waM wkM wvM) → va_S A s.heap H locs → lv_has ls 6 [(0, .ref (g 0)), (1, .int x1), (2, .int x2), (3, .long x3), (5, .int x5)] → W p l e { frames := 0, cells := 0, slots := 0, locals := 0 } s m ([.ref (g 0), .int a1, .int a2] : List Value).toArray below meth c H locs 0 0 (MQ below (va_Ql (fun r (_ : Unit) => post r) (qB D vwCl (tM q) (fun _ : Unit => (wM g q leM ceM fM kM vM wiM moM waM wkM wvM)) A) A) ([.ref (g 0), .int a1, .int a2] : List Value).toArray s 0 0 A) (F0 m 10 ls []) := by
    intro x1 x2 n
    induction n with
    | zero => intro x3 x5 hw; exact False.elim (show False from hw)
    | succ n ih =>
      intro x3 x5 hw H locs ls hP hD hS hl
      rw [wp_M_greatest_L10] at hw
      refine lv_iload hx hb dX1_greatest_10 (lv_at hl 4 rfl) ?_
      refine lv_bipush (v := 8) hx hb dX1_greatest_12 (by decide) ?_
      refine lv_iload_n hx hb dX1_greatest_14 rfl (lv_at hl 1 rfl) ?_
      refine lv_iload_n hx hb dX1_greatest_15 rfl (lv_at hl 2 rfl) ?_
      refine lv_iadd hx hb dX1_greatest_16 ?_
      refine lv_imul hx hb dX1_greatest_17 ?_
      refine lv_icmp_ge (tgt := 49) hx hb dX1_greatest_18 (by decide) (fun c_1 => ?_) (fun c_1 => ?_)
      · replace hw := hw.1 c_1
        refine lv_lload_n hx hb dX1_greatest_49 rfl (lv_at hl 3 rfl) ?_
        exact q_lret () hx hb hr hlocks hK dX1_greatest_50 hS hP hD hw
      · replace hw := hw.2 c_1
        refine lv_aload_n hx hb dX1_greatest_21 rfl (lv_at hl 0 rfl) ?_
        refine va_get (D := D) (ci := 1) (v := .ref (g 1)) (C := RX1) (T := TX1) (N := 10) hx hb hts (fun w h => List.mem_cons_of_mem _ (iX1 w h)) hown hK hP 0 rfl rfl 2 (by decide) hf_full (fun _ h9 => h9) rfl dX1_greatest_22 ?_
        refine lv_iload hx hb dX1_greatest_25 (lv_at hl 4 rfl) ?_
        obtain ⟨hi_2, hw⟩ := hw
        refine va_zald hx hb hK hP 1 0 rfl rfl hi_2 dX1_greatest_27 ?_
        refine lv_if_eq (tgt := 41) hx hb dX1_greatest_28 (by decide) (fun c_3 => ?_) (fun c_3 => ?_)
        · replace hw := hw.1 c_3
          refine lv_lload_n hx hb dX1_greatest_41 rfl (lv_at hl 3 rfl) ?_
          refine lv_lstore_n (lv' := [(3, .long x3), (0, .ref (g 0)), (1, .int x1), (2, .int x2), (5, .int x5)]) hx hb dX1_greatest_42 rfl hl (by decide) rfl (fun ls hl => ?_)
          refine lv_iinc (v := (x5 + 1)) (lv' := [(5, .int (x5 + 1)), (3, .long x3), (0, .ref (g 0)), (1, .int x1), (2, .int x2)]) hx hb dX1_greatest_43 hl (k := 4) rfl rfl (by decide) rfl (fun ls hl => ?_)
          refine lv_goto (tgt := 10) hx hb dX1_greatest_46 (by decide) ?_
          exact ih x3 (x5 + 1) hw _ _ ls hP hD hS (lv_sub hl [2, 3, 4, 1, 0] rfl)
        · replace hw := hw.2 c_3
          refine lv_aload_n hx hb dX1_greatest_31 rfl (lv_at hl 0 rfl) ?_
          refine va_get (D := D) (ci := 1) (v := .ref (g 2)) (C := RX1) (T := TX1) (N := 10) hx hb hts (fun w h => List.mem_cons_of_mem _ (iX1 w h)) hown hK hP 0 rfl rfl 3 (by decide) hf_keys (fun _ h9 => h9) rfl dX1_greatest_32 ?_
          refine lv_iload hx hb dX1_greatest_35 (lv_at hl 4 rfl) ?_
          refine va_lald hx hb hK hP 2 1 rfl rfl hi_2 dX1_greatest_37 ?_
          refine lv_goto (tgt := 42) hx hb dX1_greatest_38 (by decide) ?_
          refine lv_lstore_n (lv' := [(3, .long (kM x5.toNatClampNeg)), (0, .ref (g 0)), (1, .int x1), (2, .int x2), (5, .int x5)]) hx hb dX1_greatest_42 rfl hl (by decide) rfl (fun ls hl => ?_)
          refine lv_iinc (v := (x5 + 1)) (lv' := [(5, .int (x5 + 1)), (3, .long (kM x5.toNatClampNeg)), (0, .ref (g 0)), (1, .int x1), (2, .int x2)]) hx hb dX1_greatest_43 hl (k := 4) rfl rfl (by decide) rfl (fun ls hl => ?_)
          refine lv_goto (tgt := 10) hx hb dX1_greatest_46 (by decide) ?_
          exact ih (kM x5.toNatClampNeg) (x5 + 1) hw _ _ ls hP hD hS (lv_sub hl [2, 3, 4, 1, 0] rfl)
  unfold wp_M_greatest at hw
  refine lv_ldc2 (v := NOK) hx hb hown (hts _ (List.mem_cons_of_mem _ tcn_X1_40)) dX1_greatest_0 ?_
  refine lv_lstore_n (lv' := [(3, .long NOK), (0, .ref (g 0)), (1, .int a1), (2, .int a2)]) hx hb dX1_greatest_3 rfl hl (by decide) rfl (fun ls hl => ?_)
  refine lv_bipush (v := 8) hx hb dX1_greatest_4 (by decide) ?_
  refine lv_iload_n hx hb dX1_greatest_6 rfl (lv_at hl 2 rfl) ?_
  refine lv_imul hx hb dX1_greatest_7 ?_
  refine lv_istore (lv' := [(5, .int (8 * a1)), (3, .long NOK), (0, .ref (g 0)), (1, .int a1), (2, .int a2)]) hx hb dX1_greatest_8 hl (by decide) rfl (fun ls hl => ?_)
  obtain ⟨n0, hw⟩ := hw
  exact L10 a1 a2 n0 NOK (8 * a1) hw _ _ ls hP hD hS (lv_sub hl [2, 3, 4, 1, 0] rfl)
set_option maxHeartbeats 4000000 in
set_option maxRecDepth 100000 in
theorem c_M_levelOf (l : Launch) (D : va_G) (a0 : Int32) (post : Int32 → Prop) (hw : wp_M_levelOf a0 post) (sz : Nat) : Met l yX1_levelOf wsX1_levelOf ({ frames := 0, cells := 0, slots := 0, locals := 0 }) (qP D vwCl [] [] sz [.int a0]) (va_Qi (fun r (_ : Unit) => post r) (qB D vwCl [] (fun _ : Unit => []) (va_A [] sz)) (va_A [] sz)) 0 0 (va_A [] sz) := by
  refine q_enter (cc := cX1_levelOf) (maxL := 3) (ret := (some .int)) (fun A => va_Qi (fun r (_ : Unit) => post r) (qB D vwCl [] (fun _ : Unit => []) A) A) (by decide +kernel) rfl (Nat.le_of_ble_eq_true rfl) ?_
  intro p e s m below meth c A ls hx hb hr hml hown hts hlocks hname hP hK hD hA hl
  replace hown : s.vm.findClass RX1 = some m.cls := hown
  replace hl : lv_has ls 3 [(0, .int a0)] := hl
  have hS : va_S A s.heap s.heap [] := va_S.rf
  have L4 : ∀ (n : Nat) (x1 : Int32) (x2 : Int32), wp_M_levelOf_L4 post n x1 x2 → ∀ (H : Heap) (locs : List Loc) (ls : Array Slot), va_P D vwCl [] H → va_D A [] → va_S A s.heap H locs → lv_has ls 3 [(1, .int x1), (2, .int x2)] → W p l e { frames := 0, cells := 0, slots := 0, locals := 0 } s m ([.int a0] : List Value).toArray below meth c H locs 0 0 (MQ below (va_Qi (fun r (_ : Unit) => post r) (qB D vwCl [] (fun _ : Unit => []) A) A) ([.int a0] : List Value).toArray s 0 0 A) (F0 m 4 ls []) := by
    intro n
    induction n with
    | zero => intro x1 x2 hw; exact False.elim (show False from hw)
    | succ n ih =>
      intro x1 x2 hw H locs ls hP hD hS hl
      rw [wp_M_levelOf_L4] at hw
      refine lv_iload_n hx hb dX1_levelOf_4 rfl (lv_at hl 1 rfl) ?_
      refine lv_iconst (v := 1) hx hb dX1_levelOf_5 (by decide) ?_
      refine lv_icmp_le (tgt := 19) hx hb dX1_levelOf_6 (by decide) (fun c_1 => ?_) (fun c_1 => ?_)
      · replace hw := hw.1 c_1
        refine lv_iload_n hx hb dX1_levelOf_19 rfl (lv_at hl 0 rfl) ?_
        exact q_iret () hx hb hr hlocks hK dX1_levelOf_20 hS hP hD hw
      · replace hw := hw.2 c_1
        refine lv_iinc (v := (x1 + 1)) (lv' := [(1, .int (x1 + 1)), (2, .int x2)]) hx hb dX1_levelOf_9 hl (k := 0) rfl rfl (by decide) rfl (fun ls hl => ?_)
        refine lv_iload_n hx hb dX1_levelOf_12 rfl (lv_at hl 1 rfl) ?_
        refine lv_iconst (v := 2) hx hb dX1_levelOf_13 (by decide) ?_
        refine lv_idiv hx hb dX1_levelOf_14 (by decide) ?_
        refine lv_istore_n (lv' := [(2, .int (x2 / 2)), (1, .int (x1 + 1))]) hx hb dX1_levelOf_15 rfl hl (by decide) rfl (fun ls hl => ?_)
        refine lv_goto (tgt := 4) hx hb dX1_levelOf_16 (by decide) ?_
        exact ih (x1 + 1) (x2 / 2) hw _ _ ls hP hD hS (lv_sub hl [1, 0] rfl)
  unfold wp_M_levelOf at hw
  refine lv_iconst (v := 0) hx hb dX1_levelOf_0 (by decide) ?_
  refine lv_istore_n (lv' := [(1, .int 0), (0, .int a0)]) hx hb dX1_levelOf_1 rfl hl (by decide) rfl (fun ls hl => ?_)
  refine lv_iload_n hx hb dX1_levelOf_2 rfl (lv_at hl 1 rfl) ?_
  refine lv_istore_n (lv' := [(2, .int a0), (1, .int 0), (0, .int a0)]) hx hb dX1_levelOf_3 rfl hl (by decide) rfl (fun ls hl => ?_)
  obtain ⟨n0, hw⟩ := hw
  exact L4  n0 0 a0 hw _ _ ls hP hD hS (lv_sub hl [1, 0] rfl)
set_option maxHeartbeats 4000000 in
set_option maxRecDepth 100000 in
theorem c_M_bears (l : Launch) (D : va_G) (g : Nat → Nat) (q : Nat → ClassId) (leM : Int32) (ceM : Int32) (fM : Nat → Int32) (kM : Nat → Int64) (vM : Nat → Int64) (wiM : Int32) (moM : Int64) (waM : Int32) (wkM : Nat → Int64) (wvM : Nat → Int64) (a1 : Int32) (post : Int64 → Prop) (hw : wp_M_bears ceM fM kM a1 post) (sz : Nat) : Met l yX1_bears wsX1_bears ({ frames := 1, cells := 0, slots := 0, locals := 25 }) (qP D vwCl (tM q) (wM g q leM ceM fM kM vM wiM moM waM wkM wvM) sz [.ref (g 0), .int a1]) (va_Ql (fun r (_ : Unit) => post r) (qB D vwCl (tM q) (fun _ : Unit => (wM g q leM ceM fM kM vM wiM moM waM wkM wvM)) (va_A (wM g q leM ceM fM kM vM wiM moM waM wkM wvM) sz)) (va_A (wM g q leM ceM fM kM vM wiM moM waM wkM wvM) sz)) 0 0 (va_A (wM g q leM ceM fM kM vM wiM moM waM wkM wvM) sz) := by
  refine q_enter (cc := cX1_bears) (maxL := 4) (ret := (some .long)) (fun A => va_Ql (fun r (_ : Unit) => post r) (qB D vwCl (tM q) (fun _ : Unit => (wM g q leM ceM fM kM vM wiM moM waM wkM wvM)) A) A) (by decide +kernel) rfl (Nat.le_of_ble_eq_true rfl) ?_
  intro p e s m below meth c A ls hx hb hr hml hown hts hlocks hname hP hK hD hA hl
  replace hown : s.vm.findClass RX1 = some m.cls := hown
  replace hl : lv_has ls 4 [(0, .ref (g 0)), (1, .int a1)] := hl
  have hS : va_S A s.heap s.heap [] := va_S.rf
  unfold wp_M_bears at hw
  refine lv_aload_n hx hb dX1_bears_0 rfl (lv_at hl 0 rfl) ?_
  refine q_callVi (As := []) (rest := []) (wr := []) [0, 1, 2, 3, 4, 5] [] ⟨hx, hb, hml, hown, hts⟩ (c_M_segments l D g q leM ceM fM kM vM wiM moM waM wkM wvM  _ hw _) (cwV 0 hts gX1_bears_X1_segments rfl rfl rfl (by decide +kernel) ⟨Nat.le_of_ble_eq_true rfl, Nat.le_of_ble_eq_true rfl⟩) (va_recv hK hP (ci := 1) (q0 := 0) rfl rfl) hK hP hD hS hA rfl rfl rfl (by decide) (by decide) (by decide) rfl hl.1 rfl (Nat.le_of_ble_eq_true rfl) dX1_bears_1 ⟨Nat.zero_le _, Nat.zero_le _⟩ (fun r_1 u H locs hw hP hD hS => ?_)
  try dsimp only at hw
  replace hP : va_P D vwCl (wM g q leM ceM fM kM vM wiM moM waM wkM wvM) H := hP
  replace hD : va_D A (wM g q leM ceM fM kM vM wiM moM waM wkM wvM) := hD
  refine lv_iload_n hx hb dX1_bears_4 rfl (lv_at hl 1 rfl) ?_
  refine q_callSi (As := [.int a1]) (rest := [.int r_1]) (wr := (wM g q leM ceM fM kM vM wiM moM waM wkM wvM)) [] [0, 1, 2, 3, 4, 5] ⟨hx, hb, hml, hown, hts⟩ (c_M_levelOf l D a1 _ hw _) (va_cwS 1 hts gX1_bears_X1_levelOf rfl rfl rfl (by decide +kernel) ⟨Nat.le_of_ble_eq_true rfl, Nat.le_of_ble_eq_true rfl⟩) (hK.sub (tys' := []) [] rfl) hP hD hS hA rfl rfl rfl (by decide) (by decide) (by decide) rfl hl.1 rfl (Nat.le_of_ble_eq_true rfl) dX1_bears_5 ⟨Nat.zero_le _, Nat.zero_le _⟩ (fun r_2 u H locs hw hP hD hS => ?_)
  try dsimp only at hw
  replace hP : va_P D vwCl (wM g q leM ceM fM kM vM wiM moM waM wkM wvM) H := hP
  replace hD : va_D A (wM g q leM ceM fM kM vM wiM moM waM wkM wvM) := hD
  refine lv_ishr hx hb dX1_bears_8 ?_
  refine lv_istore_n (lv' := [(2, .int (r_1 >>> (r_2 &&& 31))), (0, .ref (g 0)), (1, .int a1)]) hx hb dX1_bears_9 rfl hl (by decide) rfl (fun ls hl => ?_)
  refine lv_iload_n hx hb dX1_bears_10 rfl (lv_at hl 2 rfl) ?_
  refine lv_iconst (v := 1) hx hb dX1_bears_11 (by decide) ?_
  refine lv_iload_n hx hb dX1_bears_12 rfl (lv_at hl 2 rfl) ?_
  refine q_callSi (As := [.int a1]) (rest := [.int 1, .int a1]) (wr := (wM g q leM ceM fM kM vM wiM moM waM wkM wvM)) [] [0, 1, 2, 3, 4, 5] ⟨hx, hb, hml, hown, hts⟩ (c_M_levelOf l D a1 _ hw _) (va_cwS 1 hts gX1_bears_X1_levelOf rfl rfl rfl (by decide +kernel) ⟨Nat.le_of_ble_eq_true rfl, Nat.le_of_ble_eq_true rfl⟩) (hK.sub (tys' := []) [] rfl) hP hD hS hA rfl rfl rfl (by decide) (by decide) (by decide) rfl hl.1 rfl (Nat.le_of_ble_eq_true rfl) dX1_bears_13 ⟨Nat.zero_le _, Nat.zero_le _⟩ (fun r_3 u H locs hw hP hD hS => ?_)
  try dsimp only at hw
  replace hP : va_P D vwCl (wM g q leM ceM fM kM vM wiM moM waM wkM wvM) H := hP
  replace hD : va_D A (wM g q leM ceM fM kM vM wiM moM waM wkM wvM) := hD
  refine lv_ishl hx hb dX1_bears_16 ?_
  refine lv_isub hx hb dX1_bears_17 ?_
  refine lv_iload_n hx hb dX1_bears_18 rfl (lv_at hl 0 rfl) ?_
  refine lv_imul hx hb dX1_bears_19 ?_
  refine lv_istore_n (lv' := [(3, .int ((a1 - ((1 : Int32) <<< (r_3 &&& 31))) * (r_1 >>> (r_2 &&& 31)))), (2, .int (r_1 >>> (r_2 &&& 31))), (0, .ref (g 0)), (1, .int a1)]) hx hb dX1_bears_20 rfl hl (by decide) rfl (fun ls hl => ?_)
  refine lv_aload_n hx hb dX1_bears_21 rfl (lv_at hl 2 rfl) ?_
  refine lv_iload_n hx hb dX1_bears_22 rfl (lv_at hl 0 rfl) ?_
  refine lv_iload_n hx hb dX1_bears_23 rfl (lv_at hl 1 rfl) ?_
  refine lv_iconst (v := 2) hx hb dX1_bears_24 (by decide) ?_
  refine lv_idiv hx hb dX1_bears_25 (by decide) ?_
  refine q_callVl (As := [.int ((a1 - ((1 : Int32) <<< (r_3 &&& 31))) * (r_1 >>> (r_2 &&& 31))), .int ((r_1 >>> (r_2 &&& 31)) / 2)]) (rest := []) (wr := []) [0, 1, 2, 3, 4, 5] [] ⟨hx, hb, hml, hown, hts⟩ (c_M_greatest l D g q leM ceM fM kM vM wiM moM waM wkM wvM ((a1 - ((1 : Int32) <<< (r_3 &&& 31))) * (r_1 >>> (r_2 &&& 31))) ((r_1 >>> (r_2 &&& 31)) / 2) _ hw _) (cwV 2 hts gX1_bears_X1_greatest rfl rfl rfl (by decide +kernel) ⟨Nat.le_of_ble_eq_true rfl, Nat.le_of_ble_eq_true rfl⟩) (va_recv hK hP (ci := 1) (q0 := 0) rfl rfl) hK hP hD hS hA rfl rfl rfl (by decide) (by decide) (by decide) rfl hl.1 rfl (Nat.le_of_ble_eq_true rfl) dX1_bears_26 ⟨Nat.zero_le _, Nat.zero_le _⟩ (fun r_4 u H locs hw hP hD hS => ?_)
  try dsimp only at hw
  replace hP : va_P D vwCl (wM g q leM ceM fM kM vM wiM moM waM wkM wvM) H := hP
  replace hD : va_D A (wM g q leM ceM fM kM vM wiM moM waM wkM wvM) := hD
  exact q_lret () hx hb hr hlocks hK dX1_bears_29 hS hP hD hw
set_option maxHeartbeats 4000000 in
set_option maxRecDepth 100000 in
theorem c_M_step (l : Launch) (D : va_G) (g : Nat → Nat) (q : Nat → ClassId) (leM : Int32) (ceM : Int32) (fM : Nat → Int32) (kM : Nat → Int64) (vM : Nat → Int64) (wiM : Int32) (moM : Int64) (waM : Int32) (wkM : Nat → Int64) (wvM : Nat → Int64) (a1 : Int32) (a2 : Int64) (post : Int32 → Prop) (hw : wp_M_step ceM fM kM a1 a2 post) (sz : Nat) : Met l yX1_step wsX1_step ({ frames := 2, cells := 0, slots := 0, locals := 48 }) (qP D vwCl (tM q) (wM g q leM ceM fM kM vM wiM moM waM wkM wvM) sz [.ref (g 0), .int a1, .long a2]) (va_Qi (fun r (_ : Unit) => post r) (qB D vwCl (tM q) (fun _ : Unit => (wM g q leM ceM fM kM vM wiM moM waM wkM wvM)) (va_A (wM g q leM ceM fM kM vM wiM moM waM wkM wvM) sz)) (va_A (wM g q leM ceM fM kM vM wiM moM waM wkM wvM) sz)) 0 0 (va_A (wM g q leM ceM fM kM vM wiM moM waM wkM wvM) sz) := by
  refine q_enter (cc := cX1_step) (maxL := 6) (ret := (some .int)) (fun A => va_Qi (fun r (_ : Unit) => post r) (qB D vwCl (tM q) (fun _ : Unit => (wM g q leM ceM fM kM vM wiM moM waM wkM wvM)) A) A) (by decide +kernel) rfl (Nat.le_of_ble_eq_true rfl) ?_
  intro p e s m below meth c A ls hx hb hr hml hown hts hlocks hname hP hK hD hA hl
  replace hown : s.vm.findClass RX1 = some m.cls := hown
  replace hl : lv_has ls 6 [(0, .ref (g 0)), (1, .int a1), (2, .long a2)] := hl
  have hS : va_S A s.heap s.heap [] := va_S.rf
  unfold wp_M_step at hw
  refine lv_aload_n hx hb dX1_step_0 rfl (lv_at hl 0 rfl) ?_
  refine lv_iload_n hx hb dX1_step_1 rfl (lv_at hl 1 rfl) ?_
  refine q_callVl (As := [.int a1]) (rest := []) (wr := []) [0, 1, 2, 3, 4, 5] [] ⟨hx, hb, hml, hown, hts⟩ (c_M_bears l D g q leM ceM fM kM vM wiM moM waM wkM wvM a1 _ hw _) (cwV 1 hts gX1_step_X1_bears rfl rfl rfl (by decide +kernel) ⟨Nat.le_of_ble_eq_true rfl, Nat.le_of_ble_eq_true rfl⟩) (va_recv hK hP (ci := 1) (q0 := 0) rfl rfl) hK hP hD hS hA rfl rfl rfl (by decide) (by decide) (by decide) rfl hl.1 rfl (Nat.le_of_ble_eq_true rfl) dX1_step_2 ⟨Nat.zero_le _, Nat.zero_le _⟩ (fun r_1 u H locs hw hP hD hS => ?_)
  try dsimp only at hw
  replace hP : va_P D vwCl (wM g q leM ceM fM kM vM wiM moM waM wkM wvM) H := hP
  replace hD : va_D A (wM g q leM ceM fM kM vM wiM moM waM wkM wvM) := hD
  refine lv_lstore (lv' := [(4, .long r_1), (0, .ref (g 0)), (1, .int a1), (2, .long a2)]) hx hb dX1_step_5 hl (by decide) rfl (fun ls hl => ?_)
  refine lv_lload hx hb dX1_step_7 (lv_at hl 0 rfl) ?_
  refine lv_ldc2 (v := NOK) hx hb hown (hts _ (List.mem_cons_of_mem _ tcn_X1_40)) dX1_step_9 ?_
  refine q_lc_eq (tgt := 29) hx hb dX1_step_12 dX1_step_13 (by decide) (fun c_2 => ?_) (fun c_2 => ?_)
  · replace hw := hw.1 c_2
    refine lv_iconst (v := 2) hx hb dX1_step_29 (by decide) ?_
    refine lv_iload_n hx hb dX1_step_30 rfl (lv_at hl 2 rfl) ?_
    refine lv_imul hx hb dX1_step_31 ?_
    refine lv_iconst (v := 1) hx hb dX1_step_32 (by decide) ?_
    refine lv_iadd hx hb dX1_step_33 ?_
    exact q_iret () hx hb hr hlocks hK dX1_step_34 hS hP hD hw
  · replace hw := hw.2 c_2
    refine lv_lload hx hb dX1_step_16 (lv_at hl 0 rfl) ?_
    refine lv_lload_n hx hb dX1_step_18 rfl (lv_at hl 3 rfl) ?_
    refine q_lc_lt (tgt := 29) hx hb dX1_step_19 dX1_step_20 (by decide) (fun c_3 => ?_) (fun c_3 => ?_)
    · replace hw := hw.1 c_3
      refine lv_iconst (v := 2) hx hb dX1_step_29 (by decide) ?_
      refine lv_iload_n hx hb dX1_step_30 rfl (lv_at hl 2 rfl) ?_
      refine lv_imul hx hb dX1_step_31 ?_
      refine lv_iconst (v := 1) hx hb dX1_step_32 (by decide) ?_
      refine lv_iadd hx hb dX1_step_33 ?_
      exact q_iret () hx hb hr hlocks hK dX1_step_34 hS hP hD hw
    · replace hw := hw.2 c_3
      refine lv_iconst (v := 2) hx hb dX1_step_23 (by decide) ?_
      refine lv_iload_n hx hb dX1_step_24 rfl (lv_at hl 2 rfl) ?_
      refine lv_imul hx hb dX1_step_25 ?_
      refine lv_goto (tgt := 34) hx hb dX1_step_26 (by decide) ?_
      exact q_iret () hx hb hr hlocks hK dX1_step_34 hS hP hD hw
set_option maxHeartbeats 4000000 in
set_option maxRecDepth 100000 in
theorem c_M_seek (l : Launch) (D : va_G) (g : Nat → Nat) (q : Nat → ClassId) (leM : Int32) (ceM : Int32) (fM : Nat → Int32) (kM : Nat → Int64) (vM : Nat → Int64) (wiM : Int32) (moM : Int64) (waM : Int32) (wkM : Nat → Int64) (wvM : Nat → Int64) (a1 : Int64) (post : Int32 → Prop) (hw : wp_M_seek ceM fM kM a1 post) (sz : Nat) : Met l yX1_seek wsX1_seek ({ frames := 3, cells := 0, slots := 0, locals := 73 }) (qP D vwCl (tM q) (wM g q leM ceM fM kM vM wiM moM waM wkM wvM) sz [.ref (g 0), .long a1]) (va_Qi (fun r (_ : Unit) => post r) (qB D vwCl (tM q) (fun _ : Unit => (wM g q leM ceM fM kM vM wiM moM waM wkM wvM)) (va_A (wM g q leM ceM fM kM vM wiM moM waM wkM wvM) sz)) (va_A (wM g q leM ceM fM kM vM wiM moM waM wkM wvM) sz)) 0 0 (va_A (wM g q leM ceM fM kM vM wiM moM waM wkM wvM) sz) := by
  refine q_enter (cc := cX1_seek) (maxL := 4) (ret := (some .int)) (fun A => va_Qi (fun r (_ : Unit) => post r) (qB D vwCl (tM q) (fun _ : Unit => (wM g q leM ceM fM kM vM wiM moM waM wkM wvM)) A) A) (by decide +kernel) rfl (Nat.le_of_ble_eq_true rfl) ?_
  intro p e s m below meth c A ls hx hb hr hml hown hts hlocks hname hP hK hD hA hl
  replace hown : s.vm.findClass RX1 = some m.cls := hown
  replace hl : lv_has ls 4 [(0, .ref (g 0)), (1, .long a1)] := hl
  have hS : va_S A s.heap s.heap [] := va_S.rf
  have L2 : ∀ (x1 : Int64) (n : Nat) (x3 : Int32), wp_M_seek_L2 ceM fM kM x1 post n x3 → ∀ (H : Heap) (locs : List Loc) (ls : Array Slot), va_P D vwCl (wM g q leM ceM fM kM vM wiM moM waM wkM wvM) H → va_D A (wM g q leM ceM fM kM vM wiM moM waM wkM wvM) → va_S A s.heap H locs → lv_has ls 4 [(0, .ref (g 0)), (1, .long x1), (3, .int x3)] → W p l e { frames := 3, cells := 0, slots := 0, locals := 73 } s m ([.ref (g 0), .long a1] : List Value).toArray below meth c H locs 0 0 (MQ below (va_Qi (fun r (_ : Unit) => post r) (qB D vwCl (tM q) (fun _ : Unit => (wM g q leM ceM fM kM vM wiM moM waM wkM wvM)) A) A) ([.ref (g 0), .long a1] : List Value).toArray s 0 0 A) (F0 m 2 ls []) := by
    intro x1 n
    induction n with
    | zero => intro x3 hw; exact False.elim (show False from hw)
    | succ n ih =>
      intro x3 hw H locs ls hP hD hS hl
      rw [wp_M_seek_L2] at hw
      refine lv_iload_n hx hb dX1_seek_2 rfl (lv_at hl 2 rfl) ?_
      refine lv_aload_n hx hb dX1_seek_3 rfl (lv_at hl 0 rfl) ?_
      refine q_callVi (As := []) (rest := [.int x3]) (wr := []) [0, 1, 2, 3, 4, 5] [] ⟨hx, hb, hml, hown, hts⟩ (c_M_segments l D g q leM ceM fM kM vM wiM moM waM wkM wvM  _ hw _) (cwV 0 hts gX1_seek_X1_segments rfl rfl rfl (by decide +kernel) ⟨Nat.le_of_ble_eq_true rfl, Nat.le_of_ble_eq_true rfl⟩) (va_recv hK hP (ci := 1) (q0 := 0) rfl rfl) hK hP hD hS hA rfl rfl rfl (by decide) (by decide) (by decide) rfl hl.1 rfl (Nat.le_of_ble_eq_true rfl) dX1_seek_4 ⟨Nat.zero_le _, Nat.zero_le _⟩ (fun r_1 u H locs hw hP hD hS => ?_)
      try dsimp only at hw
      replace hP : va_P D vwCl (wM g q leM ceM fM kM vM wiM moM waM wkM wvM) H := hP
      replace hD : va_D A (wM g q leM ceM fM kM vM wiM moM waM wkM wvM) := hD
      refine lv_icmp_ge (tgt := 20) hx hb dX1_seek_7 (by decide) (fun c_2 => ?_) (fun c_2 => ?_)
      · replace hw := hw.1 c_2
        refine lv_iload_n hx hb dX1_seek_20 rfl (lv_at hl 2 rfl) ?_
        refine lv_aload_n hx hb dX1_seek_21 rfl (lv_at hl 0 rfl) ?_
        refine q_callVi (As := []) (rest := [.int x3]) (wr := []) [0, 1, 2, 3, 4, 5] [] ⟨hx, hb, hml, hown, hts⟩ (c_M_segments l D g q leM ceM fM kM vM wiM moM waM wkM wvM  _ hw _) (cwV 0 hts gX1_seek_X1_segments rfl rfl rfl (by decide +kernel) ⟨Nat.le_of_ble_eq_true rfl, Nat.le_of_ble_eq_true rfl⟩) (va_recv hK hP (ci := 1) (q0 := 0) rfl rfl) hK hP hD hS hA rfl rfl rfl (by decide) (by decide) (by decide) rfl hl.1 rfl (Nat.le_of_ble_eq_true rfl) dX1_seek_22 ⟨Nat.zero_le _, Nat.zero_le _⟩ (fun r_3 u H locs hw hP hD hS => ?_)
        try dsimp only at hw
        replace hP : va_P D vwCl (wM g q leM ceM fM kM vM wiM moM waM wkM wvM) H := hP
        replace hD : va_D A (wM g q leM ceM fM kM vM wiM moM waM wkM wvM) := hD
        refine lv_isub hx hb dX1_seek_25 ?_
        exact q_iret () hx hb hr hlocks hK dX1_seek_26 hS hP hD hw
      · replace hw := hw.2 c_2
        refine lv_aload_n hx hb dX1_seek_10 rfl (lv_at hl 0 rfl) ?_
        refine lv_iload_n hx hb dX1_seek_11 rfl (lv_at hl 2 rfl) ?_
        refine lv_lload_n hx hb dX1_seek_12 rfl (lv_at hl 1 rfl) ?_
        refine q_callVi (As := [.int x3, .long x1]) (rest := []) (wr := []) [0, 1, 2, 3, 4, 5] [] ⟨hx, hb, hml, hown, hts⟩ (c_M_step l D g q leM ceM fM kM vM wiM moM waM wkM wvM x3 x1 _ hw _) (cwV 2 hts gX1_seek_X1_step rfl rfl rfl (by decide +kernel) ⟨Nat.le_of_ble_eq_true rfl, Nat.le_of_ble_eq_true rfl⟩) (va_recv hK hP (ci := 1) (q0 := 0) rfl rfl) hK hP hD hS hA rfl rfl rfl (by decide) (by decide) (by decide) rfl hl.1 rfl (Nat.le_of_ble_eq_true rfl) dX1_seek_13 ⟨Nat.zero_le _, Nat.zero_le _⟩ (fun r_4 u H locs hw hP hD hS => ?_)
        try dsimp only at hw
        replace hP : va_P D vwCl (wM g q leM ceM fM kM vM wiM moM waM wkM wvM) H := hP
        replace hD : va_D A (wM g q leM ceM fM kM vM wiM moM waM wkM wvM) := hD
        refine lv_istore_n (lv' := [(3, .int r_4), (0, .ref (g 0)), (1, .long x1)]) hx hb dX1_seek_16 rfl hl (by decide) rfl (fun ls hl => ?_)
        refine lv_goto (tgt := 2) hx hb dX1_seek_17 (by decide) ?_
        exact ih r_4 hw _ _ ls hP hD hS (lv_sub hl [1, 2, 0] rfl)
  unfold wp_M_seek at hw
  refine lv_iconst (v := 1) hx hb dX1_seek_0 (by decide) ?_
  refine lv_istore_n (lv' := [(3, .int 1), (0, .ref (g 0)), (1, .long a1)]) hx hb dX1_seek_1 rfl hl (by decide) rfl (fun ls hl => ?_)
  obtain ⟨n0, hw⟩ := hw
  exact L2 a1 n0 1 hw _ _ ls hP hD hS (lv_sub hl [1, 2, 0] rfl)
set_option maxHeartbeats 4000000 in
set_option maxRecDepth 100000 in
theorem c_M_placeOf (l : Launch) (D : va_G) (g : Nat → Nat) (q : Nat → ClassId) (leM : Int32) (ceM : Int32) (fM : Nat → Int32) (kM : Nat → Int64) (vM : Nat → Int64) (wiM : Int32) (moM : Int64) (waM : Int32) (wkM : Nat → Int64) (wvM : Nat → Int64) (a1 : Int32) (post : Int32 → Prop) (hw : wp_M_placeOf ceM a1 post) (sz : Nat) : Met l yX1_placeOf wsX1_placeOf ({ frames := 2, cells := 0, slots := 0, locals := 42 }) (qP D vwCl (tM q) (wM g q leM ceM fM kM vM wiM moM waM wkM wvM) sz [.ref (g 0), .int a1]) (va_Qi (fun r (_ : Unit) => post r) (qB D vwCl (tM q) (fun _ : Unit => (wM g q leM ceM fM kM vM wiM moM waM wkM wvM)) (va_A (wM g q leM ceM fM kM vM wiM moM waM wkM wvM) sz)) (va_A (wM g q leM ceM fM kM vM wiM moM waM wkM wvM) sz)) 0 0 (va_A (wM g q leM ceM fM kM vM wiM moM waM wkM wvM) sz) := by
  refine q_enter (cc := cX1_placeOf) (maxL := 9) (ret := (some .int)) (fun A => va_Qi (fun r (_ : Unit) => post r) (qB D vwCl (tM q) (fun _ : Unit => (wM g q leM ceM fM kM vM wiM moM waM wkM wvM)) A) A) (by decide +kernel) rfl (Nat.le_of_ble_eq_true rfl) ?_
  intro p e s m below meth c A ls hx hb hr hml hown hts hlocks hname hP hK hD hA hl
  replace hown : s.vm.findClass RX1 = some m.cls := hown
  replace hl : lv_has ls 9 [(0, .ref (g 0)), (1, .int a1)] := hl
  have hS : va_S A s.heap s.heap [] := va_S.rf
  have L16 : ∀ (x1 : Int32) (n : Nat) (x2 : Int32) (x3 : Int32) (x4 : Int32) (x5 : Int32), wp_M_placeOf_L16 ceM x1 post n x2 x3 x4 x5 → ∀ (H : Heap) (locs : List Loc) (ls : Array Slot), va_P D vwCl (wM g q leM ceM fM kM vM wiM moM waM wkM wvM) H → va_D A (wM g q leM ceM fM kM vM wiM moM waM wkM wvM) → va_S A s.heap H locs → lv_has ls 9 [(1, .int x1), (2, .int x2), (3, .int x3), (4, .int x4), (5, .int x5)] → W p l e { frames := 2, cells := 0, slots := 0, locals := 42 } s m ([.ref (g 0), .int a1] : List Value).toArray below meth c H locs 0 0 (MQ below (va_Qi (fun r (_ : Unit) => post r) (qB D vwCl (tM q) (fun _ : Unit => (wM g q leM ceM fM kM vM wiM moM waM wkM wvM)) A) A) ([.ref (g 0), .int a1] : List Value).toArray s 0 0 A) (F0 m 16 ls []) := by
    intro x1 n
    induction n with
    | zero => intro x2 x3 x4 x5 hw; exact False.elim (show False from hw)
    | succ n ih =>
      intro x2 x3 x4 x5 hw H locs ls hP hD hS hl
      rw [wp_M_placeOf_L16] at hw
      refine lv_iload_n hx hb dX1_placeOf_16 rfl (lv_at hl 2 rfl) ?_
      refine lv_iconst (v := 1) hx hb dX1_placeOf_17 (by decide) ?_
      refine lv_icmp_le (tgt := 100) hx hb dX1_placeOf_18 (by decide) (fun c_3 => ?_) (fun c_3 => ?_)
      · replace hw := hw.1 c_3
        refine lv_iload hx hb dX1_placeOf_100 (lv_at hl 4 rfl) ?_
        exact q_iret () hx hb hr hlocks hK dX1_placeOf_102 hS hP hD hw
      · replace hw := hw.2 c_3
        refine lv_iload_n hx hb dX1_placeOf_21 rfl (lv_at hl 2 rfl) ?_
        refine lv_iconst (v := 1) hx hb dX1_placeOf_22 (by decide) ?_
        refine lv_iadd hx hb dX1_placeOf_23 ?_
        refine lv_iconst (v := 2) hx hb dX1_placeOf_24 (by decide) ?_
        refine lv_idiv hx hb dX1_placeOf_25 (by decide) ?_
        refine lv_istore (lv' := [(6, .int ((x3 + 1) / 2)), (1, .int x1), (2, .int x2), (3, .int x3), (4, .int x4), (5, .int x5)]) hx hb dX1_placeOf_26 hl (by decide) rfl (fun ls hl => ?_)
        refine lv_iload hx hb dX1_placeOf_28 (lv_at hl 4 rfl) ?_
        refine lv_iload hx hb dX1_placeOf_30 (lv_at hl 0 rfl) ?_
        refine lv_icmp_lt (tgt := 94) hx hb dX1_placeOf_32 (by decide) (fun c_4 => ?_) (fun c_4 => ?_)
        · replace hw := hw.1 c_4
          refine lv_iload hx hb dX1_placeOf_94 (lv_at hl 0 rfl) ?_
          refine lv_istore_n (lv' := [(3, .int ((x3 + 1) / 2)), (6, .int ((x3 + 1) / 2)), (1, .int x1), (2, .int x2), (4, .int x4), (5, .int x5)]) hx hb dX1_placeOf_96 rfl hl (by decide) rfl (fun ls hl => ?_)
          refine lv_goto (tgt := 16) hx hb dX1_placeOf_97 (by decide) ?_
          exact ih x2 ((x3 + 1) / 2) x4 x5 hw _ _ ls hP hD hS (lv_sub hl [2, 3, 0, 4, 5] rfl)
        · replace hw := hw.2 c_4
          refine lv_iload_n hx hb dX1_placeOf_35 rfl (lv_at hl 1 rfl) ?_
          refine lv_iload hx hb dX1_placeOf_36 (lv_at hl 4 rfl) ?_
          refine lv_iload hx hb dX1_placeOf_38 (lv_at hl 0 rfl) ?_
          refine lv_isub hx hb dX1_placeOf_40 ?_
          refine lv_ishr hx hb dX1_placeOf_41 ?_
          refine lv_istore (lv' := [(7, .int (x1 >>> ((x4 - ((x3 + 1) / 2)) &&& 31))), (6, .int ((x3 + 1) / 2)), (1, .int x1), (2, .int x2), (3, .int x3), (4, .int x4), (5, .int x5)]) hx hb dX1_placeOf_42 hl (by decide) rfl (fun ls hl => ?_)
          refine lv_iload hx hb dX1_placeOf_44 (lv_at hl 0 rfl) ?_
          refine lv_iload_n hx hb dX1_placeOf_46 rfl (lv_at hl 3 rfl) ?_
          refine lv_iload hx hb dX1_placeOf_47 (lv_at hl 1 rfl) ?_
          refine lv_ishl hx hb dX1_placeOf_49 ?_
          refine lv_isub hx hb dX1_placeOf_50 ?_
          refine lv_istore (lv' := [(8, .int ((x1 >>> ((x4 - ((x3 + 1) / 2)) &&& 31)) - (x2 <<< (((x3 + 1) / 2) &&& 31)))), (7, .int (x1 >>> ((x4 - ((x3 + 1) / 2)) &&& 31))), (6, .int ((x3 + 1) / 2)), (1, .int x1), (2, .int x2), (3, .int x3), (4, .int x4), (5, .int x5)]) hx hb dX1_placeOf_51 hl (by decide) rfl (fun ls hl => ?_)
          refine lv_iload hx hb dX1_placeOf_53 (lv_at hl 7 rfl) ?_
          refine lv_iconst (v := 1) hx hb dX1_placeOf_55 (by decide) ?_
          refine lv_iload hx hb dX1_placeOf_56 (lv_at hl 2 rfl) ?_
          refine lv_ishl hx hb dX1_placeOf_58 ?_
          refine lv_iconst (v := 1) hx hb dX1_placeOf_59 (by decide) ?_
          refine lv_isub hx hb dX1_placeOf_60 ?_
          refine lv_iload hx hb dX1_placeOf_61 (lv_at hl 0 rfl) ?_
          refine lv_iconst (v := 1) hx hb dX1_placeOf_63 (by decide) ?_
          refine lv_iload_n hx hb dX1_placeOf_64 rfl (lv_at hl 5 rfl) ?_
          refine lv_iload hx hb dX1_placeOf_65 (lv_at hl 2 rfl) ?_
          refine lv_isub hx hb dX1_placeOf_67 ?_
          refine lv_ishl hx hb dX1_placeOf_68 ?_
          refine lv_iconst (v := 1) hx hb dX1_placeOf_69 (by decide) ?_
          refine lv_isub hx hb dX1_placeOf_70 ?_
          refine lv_imul hx hb dX1_placeOf_71 ?_
          refine lv_iadd hx hb dX1_placeOf_72 ?_
          refine lv_iadd hx hb dX1_placeOf_73 ?_
          refine lv_istore (lv' := [(5, .int (x5 + ((((1 : Int32) <<< (((x3 + 1) / 2) &&& 31)) - 1) + (((x1 >>> ((x4 - ((x3 + 1) / 2)) &&& 31)) - (x2 <<< (((x3 + 1) / 2) &&& 31))) * (((1 : Int32) <<< ((x3 - ((x3 + 1) / 2)) &&& 31)) - 1))))), (8, .int ((x1 >>> ((x4 - ((x3 + 1) / 2)) &&& 31)) - (x2 <<< (((x3 + 1) / 2) &&& 31)))), (7, .int (x1 >>> ((x4 - ((x3 + 1) / 2)) &&& 31))), (6, .int ((x3 + 1) / 2)), (1, .int x1), (2, .int x2), (3, .int x3), (4, .int x4)]) hx hb dX1_placeOf_74 hl (by decide) rfl (fun ls hl => ?_)
          refine lv_iload hx hb dX1_placeOf_76 (lv_at hl 2 rfl) ?_
          refine lv_istore_n (lv' := [(2, .int (x1 >>> ((x4 - ((x3 + 1) / 2)) &&& 31))), (5, .int (x5 + ((((1 : Int32) <<< (((x3 + 1) / 2) &&& 31)) - 1) + (((x1 >>> ((x4 - ((x3 + 1) / 2)) &&& 31)) - (x2 <<< (((x3 + 1) / 2) &&& 31))) * (((1 : Int32) <<< ((x3 - ((x3 + 1) / 2)) &&& 31)) - 1))))), (8, .int ((x1 >>> ((x4 - ((x3 + 1) / 2)) &&& 31)) - (x2 <<< (((x3 + 1) / 2) &&& 31)))), (7, .int (x1 >>> ((x4 - ((x3 + 1) / 2)) &&& 31))), (6, .int ((x3 + 1) / 2)), (1, .int x1), (3, .int x3), (4, .int x4)]) hx hb dX1_placeOf_78 rfl hl (by decide) rfl (fun ls hl => ?_)
          refine lv_iload hx hb dX1_placeOf_79 (lv_at hl 7 rfl) ?_
          refine lv_iload hx hb dX1_placeOf_81 (lv_at hl 4 rfl) ?_
          refine lv_isub hx hb dX1_placeOf_83 ?_
          refine lv_istore (lv' := [(4, .int (x4 - ((x3 + 1) / 2))), (2, .int (x1 >>> ((x4 - ((x3 + 1) / 2)) &&& 31))), (5, .int (x5 + ((((1 : Int32) <<< (((x3 + 1) / 2) &&& 31)) - 1) + (((x1 >>> ((x4 - ((x3 + 1) / 2)) &&& 31)) - (x2 <<< (((x3 + 1) / 2) &&& 31))) * (((1 : Int32) <<< ((x3 - ((x3 + 1) / 2)) &&& 31)) - 1))))), (8, .int ((x1 >>> ((x4 - ((x3 + 1) / 2)) &&& 31)) - (x2 <<< (((x3 + 1) / 2) &&& 31)))), (7, .int (x1 >>> ((x4 - ((x3 + 1) / 2)) &&& 31))), (6, .int ((x3 + 1) / 2)), (1, .int x1), (3, .int x3)]) hx hb dX1_placeOf_84 hl (by decide) rfl (fun ls hl => ?_)
          refine lv_iload_n hx hb dX1_placeOf_86 rfl (lv_at hl 7 rfl) ?_
          refine lv_iload hx hb dX1_placeOf_87 (lv_at hl 5 rfl) ?_
          refine lv_isub hx hb dX1_placeOf_89 ?_
          refine lv_istore_n (lv' := [(3, .int (x3 - ((x3 + 1) / 2))), (4, .int (x4 - ((x3 + 1) / 2))), (2, .int (x1 >>> ((x4 - ((x3 + 1) / 2)) &&& 31))), (5, .int (x5 + ((((1 : Int32) <<< (((x3 + 1) / 2) &&& 31)) - 1) + (((x1 >>> ((x4 - ((x3 + 1) / 2)) &&& 31)) - (x2 <<< (((x3 + 1) / 2) &&& 31))) * (((1 : Int32) <<< ((x3 - ((x3 + 1) / 2)) &&& 31)) - 1))))), (8, .int ((x1 >>> ((x4 - ((x3 + 1) / 2)) &&& 31)) - (x2 <<< (((x3 + 1) / 2) &&& 31)))), (7, .int (x1 >>> ((x4 - ((x3 + 1) / 2)) &&& 31))), (6, .int ((x3 + 1) / 2)), (1, .int x1)]) hx hb dX1_placeOf_90 rfl hl (by decide) rfl (fun ls hl => ?_)
          refine lv_goto (tgt := 97) hx hb dX1_placeOf_91 (by decide) ?_
          refine lv_goto (tgt := 16) hx hb dX1_placeOf_97 (by decide) ?_
          exact ih (x1 >>> ((x4 - ((x3 + 1) / 2)) &&& 31)) (x3 - ((x3 + 1) / 2)) (x4 - ((x3 + 1) / 2)) (x5 + ((((1 : Int32) <<< (((x3 + 1) / 2) &&& 31)) - 1) + (((x1 >>> ((x4 - ((x3 + 1) / 2)) &&& 31)) - (x2 <<< (((x3 + 1) / 2) &&& 31))) * (((1 : Int32) <<< ((x3 - ((x3 + 1) / 2)) &&& 31)) - 1)))) hw _ _ ls hP hD hS (lv_sub hl [7, 2, 0, 1, 3] rfl)
  unfold wp_M_placeOf at hw
  refine lv_iconst (v := 1) hx hb dX1_placeOf_0 (by decide) ?_
  refine lv_istore_n (lv' := [(2, .int 1), (0, .ref (g 0)), (1, .int a1)]) hx hb dX1_placeOf_1 rfl hl (by decide) rfl (fun ls hl => ?_)
  refine lv_aload_n hx hb dX1_placeOf_2 rfl (lv_at hl 1 rfl) ?_
  refine q_callVi (As := []) (rest := []) (wr := []) [0, 1, 2, 3, 4, 5] [] ⟨hx, hb, hml, hown, hts⟩ (c_M_levels l D g q leM ceM fM kM vM wiM moM waM wkM wvM  _ hw _) (cwV 0 hts gX1_placeOf_X1_levels rfl rfl rfl (by decide +kernel) ⟨Nat.le_of_ble_eq_true rfl, Nat.le_of_ble_eq_true rfl⟩) (va_recv hK hP (ci := 1) (q0 := 0) rfl rfl) hK hP hD hS hA rfl rfl rfl (by decide) (by decide) (by decide) rfl hl.1 rfl (Nat.le_of_ble_eq_true rfl) dX1_placeOf_3 ⟨Nat.zero_le _, Nat.zero_le _⟩ (fun r_1 u H locs hw hP hD hS => ?_)
  try dsimp only at hw
  replace hP : va_P D vwCl (wM g q leM ceM fM kM vM wiM moM waM wkM wvM) H := hP
  replace hD : va_D A (wM g q leM ceM fM kM vM wiM moM waM wkM wvM) := hD
  refine lv_istore_n (lv' := [(3, .int r_1), (2, .int 1), (0, .ref (g 0)), (1, .int a1)]) hx hb dX1_placeOf_6 rfl hl (by decide) rfl (fun ls hl => ?_)
  refine lv_iload_n hx hb dX1_placeOf_7 rfl (lv_at hl 3 rfl) ?_
  refine q_callSi (As := [.int a1]) (rest := []) (wr := (wM g q leM ceM fM kM vM wiM moM waM wkM wvM)) [] [0, 1, 2, 3, 4, 5] ⟨hx, hb, hml, hown, hts⟩ (c_M_levelOf l D a1 _ hw _) (va_cwS 1 hts gX1_placeOf_X1_levelOf rfl rfl rfl (by decide +kernel) ⟨Nat.le_of_ble_eq_true rfl, Nat.le_of_ble_eq_true rfl⟩) (hK.sub (tys' := []) [] rfl) hP hD hS hA rfl rfl rfl (by decide) (by decide) (by decide) rfl hl.1 rfl (Nat.le_of_ble_eq_true rfl) dX1_placeOf_8 ⟨Nat.zero_le _, Nat.zero_le _⟩ (fun r_2 u H locs hw hP hD hS => ?_)
  try dsimp only at hw
  replace hP : va_P D vwCl (wM g q leM ceM fM kM vM wiM moM waM wkM wvM) H := hP
  replace hD : va_D A (wM g q leM ceM fM kM vM wiM moM waM wkM wvM) := hD
  refine lv_istore (lv' := [(4, .int r_2), (3, .int r_1), (2, .int 1), (0, .ref (g 0)), (1, .int a1)]) hx hb dX1_placeOf_11 hl (by decide) rfl (fun ls hl => ?_)
  refine lv_iconst (v := 0) hx hb dX1_placeOf_13 (by decide) ?_
  refine lv_istore (lv' := [(5, .int 0), (4, .int r_2), (3, .int r_1), (2, .int 1), (0, .ref (g 0)), (1, .int a1)]) hx hb dX1_placeOf_14 hl (by decide) rfl (fun ls hl => ?_)
  obtain ⟨n0, hw⟩ := hw
  exact L16 a1 n0 1 r_1 r_2 0 hw _ _ ls hP hD hS (lv_sub hl [5, 3, 2, 1, 0] rfl)
