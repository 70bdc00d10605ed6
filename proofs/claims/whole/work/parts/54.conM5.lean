set_option maxHeartbeats 4000000 in
set_option maxRecDepth 100000 in
theorem c_M_cells (l : Launch) (D : va_G) (g : Nat → Nat) (q : Nat → ClassId) (leM : Int32) (ceM : Int32) (fM : Nat → Int32) (kM : Nat → Int64) (vM : Nat → Int64) (wiM : Int32) (moM : Int64) (waM : Int32) (wkM : Nat → Int64) (wvM : Nat → Int64) (post : Int32 → Prop) (hw : wp_M_cells ceM post) (sz : Nat) : Met l yX1_cells wsX1_cells ({ frames := 0, cells := 0, slots := 0, locals := 0 }) (qP D vwCl (tM q) (wM g q leM ceM fM kM vM wiM moM waM wkM wvM) sz [.ref (g 0)]) (va_Qi (fun r (_ : Unit) => post r) (qB D vwCl (tM q) (fun _ : Unit => (wM g q leM ceM fM kM vM wiM moM waM wkM wvM)) (va_A (wM g q leM ceM fM kM vM wiM moM waM wkM wvM) sz)) (va_A (wM g q leM ceM fM kM vM wiM moM waM wkM wvM) sz)) 0 0 (va_A (wM g q leM ceM fM kM vM wiM moM waM wkM wvM) sz) := by
  refine q_enter (cc := cX1_cells) (maxL := 1) (ret := (some .int)) (fun A => va_Qi (fun r (_ : Unit) => post r) (qB D vwCl (tM q) (fun _ : Unit => (wM g q leM ceM fM kM vM wiM moM waM wkM wvM)) A) A) (by decide +kernel) rfl (Nat.le_of_ble_eq_true rfl) ?_
  intro p e s m below meth c A ls hx hb hr hml hown hts hlocks hname hP hK hD hA hl
  replace hown : s.vm.findClass RX1 = some m.cls := hown
  replace hl : lv_has ls 1 [(0, .ref (g 0))] := hl
  have hS : va_S A s.heap s.heap [] := va_S.rf
  have hf_cells := hts _ (List.mem_cons_of_mem _ tfl_X1_33)
  unfold wp_M_cells at hw
  refine lv_aload_n hx hb dX1_cells_0 rfl (lv_at hl 0 rfl) ?_
  refine va_get (D := D) (ci := 1) (v := .int ceM) (C := RX1) (T := TX1) (N := 10) hx hb hts (fun w h => List.mem_cons_of_mem _ (iX1 w h)) hown hK hP 0 rfl rfl 1 (by decide) hf_cells (fun _ h9 => h9) rfl dX1_cells_1 ?_
  exact q_iret () hx hb hr hlocks hK dX1_cells_4 hS hP hD hw
set_option maxHeartbeats 4000000 in
set_option maxRecDepth 100000 in
theorem c_M_cellKey (l : Launch) (D : va_G) (g : Nat → Nat) (q : Nat → ClassId) (leM : Int32) (ceM : Int32) (fM : Nat → Int32) (kM : Nat → Int64) (vM : Nat → Int64) (wiM : Int32) (moM : Int64) (waM : Int32) (wkM : Nat → Int64) (wvM : Nat → Int64) (a1 : Int32) (post : Int64 → Prop) (hw : wp_M_cellKey ceM fM kM a1 post) (sz : Nat) : Met l yX1_cellKey wsX1_cellKey ({ frames := 0, cells := 0, slots := 0, locals := 0 }) (qP D vwCl (tM q) (wM g q leM ceM fM kM vM wiM moM waM wkM wvM) sz [.ref (g 0), .int a1]) (va_Ql (fun r (_ : Unit) => post r) (qB D vwCl (tM q) (fun _ : Unit => (wM g q leM ceM fM kM vM wiM moM waM wkM wvM)) (va_A (wM g q leM ceM fM kM vM wiM moM waM wkM wvM) sz)) (va_A (wM g q leM ceM fM kM vM wiM moM waM wkM wvM) sz)) 0 0 (va_A (wM g q leM ceM fM kM vM wiM moM waM wkM wvM) sz) := by
  refine q_enter (cc := cX1_cellKey) (maxL := 2) (ret := (some .long)) (fun A => va_Ql (fun r (_ : Unit) => post r) (qB D vwCl (tM q) (fun _ : Unit => (wM g q leM ceM fM kM vM wiM moM waM wkM wvM)) A) A) (by decide +kernel) rfl (Nat.le_of_ble_eq_true rfl) ?_
  intro p e s m below meth c A ls hx hb hr hml hown hts hlocks hname hP hK hD hA hl
  replace hown : s.vm.findClass RX1 = some m.cls := hown
  replace hl : lv_has ls 2 [(0, .ref (g 0)), (1, .int a1)] := hl
  have hS : va_S A s.heap s.heap [] := va_S.rf
  have hf_keys := hts _ (List.mem_cons_of_mem _ tfl_X1_13)
  have hf_cells := hts _ (List.mem_cons_of_mem _ tfl_X1_33)
  have hf_full := hts _ (List.mem_cons_of_mem _ tfl_X1_7)
  unfold wp_M_cellKey at hw
  refine lv_iload_n hx hb dX1_cellKey_0 rfl (lv_at hl 1 rfl) ?_
  refine lv_if_lt (tgt := 30) hx hb dX1_cellKey_1 (by decide) (fun c_1 => ?_) (fun c_1 => ?_)
  · replace hw := hw.1 c_1
    refine lv_ldc2 (v := NOK) hx hb hown (hts _ (List.mem_cons_of_mem _ tcn_X1_40)) dX1_cellKey_30 ?_
    exact q_lret () hx hb hr hlocks hK dX1_cellKey_33 hS hP hD hw
  · replace hw := hw.2 c_1
    refine lv_iload_n hx hb dX1_cellKey_4 rfl (lv_at hl 1 rfl) ?_
    refine lv_aload_n hx hb dX1_cellKey_5 rfl (lv_at hl 0 rfl) ?_
    refine va_get (D := D) (ci := 1) (v := .int ceM) (C := RX1) (T := TX1) (N := 10) hx hb hts (fun w h => List.mem_cons_of_mem _ (iX1 w h)) hown hK hP 0 rfl rfl 1 (by decide) hf_cells (fun _ h9 => h9) rfl dX1_cellKey_6 ?_
    refine lv_icmp_ge (tgt := 30) hx hb dX1_cellKey_9 (by decide) (fun c_2 => ?_) (fun c_2 => ?_)
    · replace hw := hw.1 c_2
      refine lv_ldc2 (v := NOK) hx hb hown (hts _ (List.mem_cons_of_mem _ tcn_X1_40)) dX1_cellKey_30 ?_
      exact q_lret () hx hb hr hlocks hK dX1_cellKey_33 hS hP hD hw
    · replace hw := hw.2 c_2
      refine lv_aload_n hx hb dX1_cellKey_12 rfl (lv_at hl 0 rfl) ?_
      refine va_get (D := D) (ci := 1) (v := .ref (g 1)) (C := RX1) (T := TX1) (N := 10) hx hb hts (fun w h => List.mem_cons_of_mem _ (iX1 w h)) hown hK hP 0 rfl rfl 2 (by decide) hf_full (fun _ h9 => h9) rfl dX1_cellKey_13 ?_
      refine lv_iload_n hx hb dX1_cellKey_16 rfl (lv_at hl 1 rfl) ?_
      obtain ⟨hi_3, hw⟩ := hw
      refine va_zald hx hb hK hP 1 0 rfl rfl hi_3 dX1_cellKey_17 ?_
      refine lv_if_eq (tgt := 30) hx hb dX1_cellKey_18 (by decide) (fun c_4 => ?_) (fun c_4 => ?_)
      · replace hw := hw.1 c_4
        refine lv_ldc2 (v := NOK) hx hb hown (hts _ (List.mem_cons_of_mem _ tcn_X1_40)) dX1_cellKey_30 ?_
        exact q_lret () hx hb hr hlocks hK dX1_cellKey_33 hS hP hD hw
      · replace hw := hw.2 c_4
        refine lv_aload_n hx hb dX1_cellKey_21 rfl (lv_at hl 0 rfl) ?_
        refine va_get (D := D) (ci := 1) (v := .ref (g 2)) (C := RX1) (T := TX1) (N := 10) hx hb hts (fun w h => List.mem_cons_of_mem _ (iX1 w h)) hown hK hP 0 rfl rfl 3 (by decide) hf_keys (fun _ h9 => h9) rfl dX1_cellKey_22 ?_
        refine lv_iload_n hx hb dX1_cellKey_25 rfl (lv_at hl 1 rfl) ?_
        refine va_lald hx hb hK hP 2 1 rfl rfl hi_3 dX1_cellKey_26 ?_
        refine lv_goto (tgt := 33) hx hb dX1_cellKey_27 (by decide) ?_
        exact q_lret () hx hb hr hlocks hK dX1_cellKey_33 hS hP hD hw
set_option maxHeartbeats 4000000 in
set_option maxRecDepth 100000 in
theorem c_M_window (l : Launch) (D : va_G) (g : Nat → Nat) (q : Nat → ClassId) (leM : Int32) (ceM : Int32) (fM : Nat → Int32) (kM : Nat → Int64) (vM : Nat → Int64) (wiM : Int32) (moM : Int64) (waM : Int32) (wkM : Nat → Int64) (wvM : Nat → Int64) (post : Int32 → Prop) (hw : wp_M_window wiM post) (sz : Nat) : Met l yX1_window wsX1_window ({ frames := 0, cells := 0, slots := 0, locals := 0 }) (qP D vwCl (tM q) (wM g q leM ceM fM kM vM wiM moM waM wkM wvM) sz [.ref (g 0)]) (va_Qi (fun r (_ : Unit) => post r) (qB D vwCl (tM q) (fun _ : Unit => (wM g q leM ceM fM kM vM wiM moM waM wkM wvM)) (va_A (wM g q leM ceM fM kM vM wiM moM waM wkM wvM) sz)) (va_A (wM g q leM ceM fM kM vM wiM moM waM wkM wvM) sz)) 0 0 (va_A (wM g q leM ceM fM kM vM wiM moM waM wkM wvM) sz) := by
  refine q_enter (cc := cX1_window) (maxL := 1) (ret := (some .int)) (fun A => va_Qi (fun r (_ : Unit) => post r) (qB D vwCl (tM q) (fun _ : Unit => (wM g q leM ceM fM kM vM wiM moM waM wkM wvM)) A) A) (by decide +kernel) rfl (Nat.le_of_ble_eq_true rfl) ?_
  intro p e s m below meth c A ls hx hb hr hml hown hts hlocks hname hP hK hD hA hl
  replace hown : s.vm.findClass RX1 = some m.cls := hown
  replace hl : lv_has ls 1 [(0, .ref (g 0))] := hl
  have hS : va_S A s.heap s.heap [] := va_S.rf
  have hf_window := hts _ (List.mem_cons_of_mem _ tfl_X1_20)
  unfold wp_M_window at hw
  refine lv_aload_n hx hb dX1_window_0 rfl (lv_at hl 0 rfl) ?_
  refine va_get (D := D) (ci := 1) (v := .int wiM) (C := RX1) (T := TX1) (N := 10) hx hb hts (fun w h => List.mem_cons_of_mem _ (iX1 w h)) hown hK hP 0 rfl rfl 5 (by decide) hf_window (fun _ h9 => h9) rfl dX1_window_1 ?_
  exact q_iret () hx hb hr hlocks hK dX1_window_4 hS hP hD hw
set_option maxHeartbeats 4000000 in
set_option maxRecDepth 100000 in
theorem c_M_moved (l : Launch) (D : va_G) (g : Nat → Nat) (q : Nat → ClassId) (leM : Int32) (ceM : Int32) (fM : Nat → Int32) (kM : Nat → Int64) (vM : Nat → Int64) (wiM : Int32) (moM : Int64) (waM : Int32) (wkM : Nat → Int64) (wvM : Nat → Int64) (post : Int64 → Prop) (hw : wp_M_moved moM post) (sz : Nat) : Met l yX1_moved wsX1_moved ({ frames := 0, cells := 0, slots := 0, locals := 0 }) (qP D vwCl (tM q) (wM g q leM ceM fM kM vM wiM moM waM wkM wvM) sz [.ref (g 0)]) (va_Ql (fun r (_ : Unit) => post r) (qB D vwCl (tM q) (fun _ : Unit => (wM g q leM ceM fM kM vM wiM moM waM wkM wvM)) (va_A (wM g q leM ceM fM kM vM wiM moM waM wkM wvM) sz)) (va_A (wM g q leM ceM fM kM vM wiM moM waM wkM wvM) sz)) 0 0 (va_A (wM g q leM ceM fM kM vM wiM moM waM wkM wvM) sz) := by
  refine q_enter (cc := cX1_moved) (maxL := 1) (ret := (some .long)) (fun A => va_Ql (fun r (_ : Unit) => post r) (qB D vwCl (tM q) (fun _ : Unit => (wM g q leM ceM fM kM vM wiM moM waM wkM wvM)) A) A) (by decide +kernel) rfl (Nat.le_of_ble_eq_true rfl) ?_
  intro p e s m below meth c A ls hx hb hr hml hown hts hlocks hname hP hK hD hA hl
  replace hown : s.vm.findClass RX1 = some m.cls := hown
  replace hl : lv_has ls 1 [(0, .ref (g 0))] := hl
  have hS : va_S A s.heap s.heap [] := va_S.rf
  have hf_moved := hts _ (List.mem_cons_of_mem _ tfl_X1_75)
  unfold wp_M_moved at hw
  refine lv_aload_n hx hb dX1_moved_0 rfl (lv_at hl 0 rfl) ?_
  refine va_get (D := D) (ci := 1) (v := .long moM) (C := RX1) (T := TX1) (N := 10) hx hb hts (fun w h => List.mem_cons_of_mem _ (iX1 w h)) hown hK hP 0 rfl rfl 6 (by decide) hf_moved (fun _ h9 => h9) rfl dX1_moved_1 ?_
  exact q_lret () hx hb hr hlocks hK dX1_moved_4 hS hP hD hw
