set_option maxHeartbeats 4000000 in
set_option maxRecDepth 100000 in
theorem c_M_isNode (l : Launch) (D : va_G) (g : Nat → Nat) (q : Nat → ClassId) (leM : Int32) (ceM : Int32) (fM : Nat → Int32) (kM : Nat → Int64) (vM : Nat → Int64) (wiM : Int32) (moM : Int64) (waM : Int32) (wkM : Nat → Int64) (wvM : Nat → Int64) (a1 : Int32) (post : Int32 → Prop) (hw : wp_M_isNode ceM a1 post) (sz : Nat) : Met l yX1_isNode wsX1_isNode ({ frames := 1, cells := 0, slots := 0, locals := 20 }) (qP D vwCl (tM q) (wM g q leM ceM fM kM vM wiM moM waM wkM wvM) sz [.ref (g 0), .int a1]) (va_Qi (fun r (_ : Unit) => post r) (qB D vwCl (tM q) (fun _ : Unit => (wM g q leM ceM fM kM vM wiM moM waM wkM wvM)) (va_A (wM g q leM ceM fM kM vM wiM moM waM wkM wvM) sz)) (va_A (wM g q leM ceM fM kM vM wiM moM waM wkM wvM) sz)) 0 0 (va_A (wM g q leM ceM fM kM vM wiM moM waM wkM wvM) sz) := by
  refine q_enter (cc := cX1_isNode) (maxL := 2) (ret := (some .boolean)) (fun A => va_Qi (fun r (_ : Unit) => post r) (qB D vwCl (tM q) (fun _ : Unit => (wM g q leM ceM fM kM vM wiM moM waM wkM wvM)) A) A) (by decide +kernel) rfl (Nat.le_of_ble_eq_true rfl) ?_
  intro p e s m below meth c A ls hx hb hr hml hown hts hlocks hname hP hK hD hA hl
  replace hown : s.vm.findClass RX1 = some m.cls := hown
  replace hl : lv_has ls 2 [(0, .ref (g 0)), (1, .int a1)] := hl
  have hS : va_S A s.heap s.heap [] := va_S.rf
  unfold wp_M_isNode at hw
  refine lv_iload_n hx hb dX1_isNode_0 rfl (lv_at hl 1 rfl) ?_
  refine lv_iconst (v := 1) hx hb dX1_isNode_1 (by decide) ?_
  refine lv_icmp_lt (tgt := 17) hx hb dX1_isNode_2 (by decide) (fun c_1 => ?_) (fun c_1 => ?_)
  · replace hw := hw.1 c_1
    refine lv_iconst (v := 0) hx hb dX1_isNode_17 (by decide) ?_
    exact q_zret () hx hb hr (by decide) hlocks hK dX1_isNode_18 hS hP hD hw
  · replace hw := hw.2 c_1
    refine lv_iload_n hx hb dX1_isNode_5 rfl (lv_at hl 1 rfl) ?_
    refine lv_aload_n hx hb dX1_isNode_6 rfl (lv_at hl 0 rfl) ?_
    refine q_callVi (As := []) (rest := [.int a1]) (wr := []) [0, 1, 2, 3, 4, 5] [] ⟨hx, hb, hml, hown, hts⟩ (c_M_segments l D g q leM ceM fM kM vM wiM moM waM wkM wvM  _ hw _) (cwV 0 hts gX1_isNode_X1_segments rfl rfl rfl (by decide +kernel) ⟨Nat.le_of_ble_eq_true rfl, Nat.le_of_ble_eq_true rfl⟩) (va_recv hK hP (ci := 1) (q0 := 0) rfl rfl) hK hP hD hS hA rfl rfl rfl (by decide) (by decide) (by decide) rfl hl.1 rfl (Nat.le_of_ble_eq_true rfl) dX1_isNode_7 ⟨Nat.zero_le _, Nat.zero_le _⟩ (fun r_2 u H locs hw hP hD hS => ?_)
    try dsimp only at hw
    replace hP : va_P D vwCl (wM g q leM ceM fM kM vM wiM moM waM wkM wvM) H := hP
    replace hD : va_D A (wM g q leM ceM fM kM vM wiM moM waM wkM wvM) := hD
    refine lv_icmp_ge (tgt := 17) hx hb dX1_isNode_10 (by decide) (fun c_3 => ?_) (fun c_3 => ?_)
    · replace hw := hw.1 c_3
      refine lv_iconst (v := 0) hx hb dX1_isNode_17 (by decide) ?_
      exact q_zret () hx hb hr (by decide) hlocks hK dX1_isNode_18 hS hP hD hw
    · replace hw := hw.2 c_3
      refine lv_iconst (v := 1) hx hb dX1_isNode_13 (by decide) ?_
      refine lv_goto (tgt := 18) hx hb dX1_isNode_14 (by decide) ?_
      exact q_zret () hx hb hr (by decide) hlocks hK dX1_isNode_18 hS hP hD hw
set_option maxHeartbeats 4000000 in
set_option maxRecDepth 100000 in
theorem c_M_place (l : Launch) (D : va_G) (g : Nat → Nat) (q : Nat → ClassId) (leM : Int32) (ceM : Int32) (fM : Nat → Int32) (kM : Nat → Int64) (vM : Nat → Int64) (wiM : Int32) (moM : Int64) (waM : Int32) (wkM : Nat → Int64) (wvM : Nat → Int64) (a1 : Int32) (post : Int32 → Prop) (hw : wp_M_place ceM a1 post) (sz : Nat) : Met l yX1_place wsX1_place ({ frames := 3, cells := 0, slots := 0, locals := 70 }) (qP D vwCl (tM q) (wM g q leM ceM fM kM vM wiM moM waM wkM wvM) sz [.ref (g 0), .int a1]) (va_Qi (fun r (_ : Unit) => post r) (qB D vwCl (tM q) (fun _ : Unit => (wM g q leM ceM fM kM vM wiM moM waM wkM wvM)) (va_A (wM g q leM ceM fM kM vM wiM moM waM wkM wvM) sz)) (va_A (wM g q leM ceM fM kM vM wiM moM waM wkM wvM) sz)) 0 0 (va_A (wM g q leM ceM fM kM vM wiM moM waM wkM wvM) sz) := by
  refine q_enter (cc := cX1_place) (maxL := 2) (ret := (some .int)) (fun A => va_Qi (fun r (_ : Unit) => post r) (qB D vwCl (tM q) (fun _ : Unit => (wM g q leM ceM fM kM vM wiM moM waM wkM wvM)) A) A) (by decide +kernel) rfl (Nat.le_of_ble_eq_true rfl) ?_
  intro p e s m below meth c A ls hx hb hr hml hown hts hlocks hname hP hK hD hA hl
  replace hown : s.vm.findClass RX1 = some m.cls := hown
  replace hl : lv_has ls 2 [(0, .ref (g 0)), (1, .int a1)] := hl
  have hS : va_S A s.heap s.heap [] := va_S.rf
  unfold wp_M_place at hw
  refine lv_aload_n hx hb dX1_place_0 rfl (lv_at hl 0 rfl) ?_
  refine lv_iload_n hx hb dX1_place_1 rfl (lv_at hl 1 rfl) ?_
  refine q_callVi (As := [.int a1]) (rest := []) (wr := []) [0, 1, 2, 3, 4, 5] [] ⟨hx, hb, hml, hown, hts⟩ (c_M_isNode l D g q leM ceM fM kM vM wiM moM waM wkM wvM a1 _ hw _) (cwV 1 hts gX1_place_X1_isNode rfl rfl rfl (by decide +kernel) ⟨Nat.le_of_ble_eq_true rfl, Nat.le_of_ble_eq_true rfl⟩) (va_recv hK hP (ci := 1) (q0 := 0) rfl rfl) hK hP hD hS hA rfl rfl rfl (by decide) (by decide) (by decide) rfl hl.1 rfl (Nat.le_of_ble_eq_true rfl) dX1_place_2 ⟨Nat.zero_le _, Nat.zero_le _⟩ (fun r_1 u H locs hw hP hD hS => ?_)
  try dsimp only at hw
  replace hP : va_P D vwCl (wM g q leM ceM fM kM vM wiM moM waM wkM wvM) H := hP
  replace hD : va_D A (wM g q leM ceM fM kM vM wiM moM waM wkM wvM) := hD
  refine lv_if_eq (tgt := 16) hx hb dX1_place_5 (by decide) (fun c_2 => ?_) (fun c_2 => ?_)
  · replace hw := hw.1 c_2
    refine lv_iconst (v := (-1)) hx hb dX1_place_16 (by decide) ?_
    exact q_iret () hx hb hr hlocks hK dX1_place_17 hS hP hD hw
  · replace hw := hw.2 c_2
    refine lv_aload_n hx hb dX1_place_8 rfl (lv_at hl 0 rfl) ?_
    refine lv_iload_n hx hb dX1_place_9 rfl (lv_at hl 1 rfl) ?_
    refine q_callVi (As := [.int a1]) (rest := []) (wr := []) [0, 1, 2, 3, 4, 5] [] ⟨hx, hb, hml, hown, hts⟩ (c_M_placeOf l D g q leM ceM fM kM vM wiM moM waM wkM wvM a1 _ hw _) (cwV 1 hts gX1_place_X1_placeOf rfl rfl rfl (by decide +kernel) ⟨Nat.le_of_ble_eq_true rfl, Nat.le_of_ble_eq_true rfl⟩) (va_recv hK hP (ci := 1) (q0 := 0) rfl rfl) hK hP hD hS hA rfl rfl rfl (by decide) (by decide) (by decide) rfl hl.1 rfl (Nat.le_of_ble_eq_true rfl) dX1_place_10 ⟨Nat.zero_le _, Nat.zero_le _⟩ (fun r_3 u H locs hw hP hD hS => ?_)
    try dsimp only at hw
    replace hP : va_P D vwCl (wM g q leM ceM fM kM vM wiM moM waM wkM wvM) H := hP
    replace hD : va_D A (wM g q leM ceM fM kM vM wiM moM waM wkM wvM) := hD
    refine lv_goto (tgt := 17) hx hb dX1_place_13 (by decide) ?_
    exact q_iret () hx hb hr hlocks hK dX1_place_17 hS hP hD hw
set_option maxHeartbeats 4000000 in
set_option maxRecDepth 100000 in
theorem c_M_borne (l : Launch) (D : va_G) (g : Nat → Nat) (q : Nat → ClassId) (leM : Int32) (ceM : Int32) (fM : Nat → Int32) (kM : Nat → Int64) (vM : Nat → Int64) (wiM : Int32) (moM : Int64) (waM : Int32) (wkM : Nat → Int64) (wvM : Nat → Int64) (a1 : Int32) (post : Int64 → Prop) (hw : wp_M_borne ceM fM kM a1 post) (sz : Nat) : Met l yX1_borne wsX1_borne ({ frames := 3, cells := 0, slots := 0, locals := 70 }) (qP D vwCl (tM q) (wM g q leM ceM fM kM vM wiM moM waM wkM wvM) sz [.ref (g 0), .int a1]) (va_Ql (fun r (_ : Unit) => post r) (qB D vwCl (tM q) (fun _ : Unit => (wM g q leM ceM fM kM vM wiM moM waM wkM wvM)) (va_A (wM g q leM ceM fM kM vM wiM moM waM wkM wvM) sz)) (va_A (wM g q leM ceM fM kM vM wiM moM waM wkM wvM) sz)) 0 0 (va_A (wM g q leM ceM fM kM vM wiM moM waM wkM wvM) sz) := by
  refine q_enter (cc := cX1_borne) (maxL := 5) (ret := (some .long)) (fun A => va_Ql (fun r (_ : Unit) => post r) (qB D vwCl (tM q) (fun _ : Unit => (wM g q leM ceM fM kM vM wiM moM waM wkM wvM)) A) A) (by decide +kernel) rfl (Nat.le_of_ble_eq_true rfl) ?_
  intro p e s m below meth c A ls hx hb hr hml hown hts hlocks hname hP hK hD hA hl
  replace hown : s.vm.findClass RX1 = some m.cls := hown
  replace hl : lv_has ls 5 [(0, .ref (g 0)), (1, .int a1)] := hl
  have hS : va_S A s.heap s.heap [] := va_S.rf
  have L7 : ∀ (x1 : Int32) (n : Nat) (x2 : Int64) (x4 : Int32), wp_M_borne_L7 ceM fM kM x1 post n x2 x4 → ∀ (H : Heap) (locs : List Loc) (ls : Array Slot), va_P D vwCl (wM g q leM ceM fM kM vM wiM moM waM wkM wvM) H → va_D A (wM g q leM ceM fM kM vM wiM moM waM wkM wvM) → va_S A s.heap H locs → lv_has ls 5 [(0, .ref (g 0)), (1, .int x1), (2, .long x2), (4, .int x4)] → W p l e { frames := 3, cells := 0, slots := 0, locals := 70 } s m ([.ref (g 0), .int a1] : List Value).toArray below meth c H locs 0 0 (MQ below (va_Ql (fun r (_ : Unit) => post r) (qB D vwCl (tM q) (fun _ : Unit => (wM g q leM ceM fM kM vM wiM moM waM wkM wvM)) A) A) ([.ref (g 0), .int a1] : List Value).toArray s 0 0 A) (F0 m 7 ls []) := by
    intro x1 n
    induction n with
    | zero => intro x2 x4 hw; exact False.elim (show False from hw)
    | succ n ih =>
      intro x2 x4 hw H locs ls hP hD hS hl
      rw [wp_M_borne_L7] at hw
      refine lv_iload hx hb dX1_borne_7 (lv_at hl 3 rfl) ?_
      refine lv_aload_n hx hb dX1_borne_9 rfl (lv_at hl 0 rfl) ?_
      refine q_callVi (As := []) (rest := [.int x4]) (wr := []) [0, 1, 2, 3, 4, 5] [] ⟨hx, hb, hml, hown, hts⟩ (c_M_segments l D g q leM ceM fM kM vM wiM moM waM wkM wvM  _ hw _) (cwV 0 hts gX1_borne_X1_segments rfl rfl rfl (by decide +kernel) ⟨Nat.le_of_ble_eq_true rfl, Nat.le_of_ble_eq_true rfl⟩) (va_recv hK hP (ci := 1) (q0 := 0) rfl rfl) hK hP hD hS hA rfl rfl rfl (by decide) (by decide) (by decide) rfl hl.1 rfl (Nat.le_of_ble_eq_true rfl) dX1_borne_10 ⟨Nat.zero_le _, Nat.zero_le _⟩ (fun r_1 u H locs hw hP hD hS => ?_)
      try dsimp only at hw
      replace hP : va_P D vwCl (wM g q leM ceM fM kM vM wiM moM waM wkM wvM) H := hP
      replace hD : va_D A (wM g q leM ceM fM kM vM wiM moM waM wkM wvM) := hD
      refine lv_icmp_ge (tgt := 43) hx hb dX1_borne_13 (by decide) (fun c_2 => ?_) (fun c_2 => ?_)
      · replace hw := hw.1 c_2
        refine lv_lload_n hx hb dX1_borne_43 rfl (lv_at hl 2 rfl) ?_
        exact q_lret () hx hb hr hlocks hK dX1_borne_44 hS hP hD hw
      · replace hw := hw.2 c_2
        refine lv_aload_n hx hb dX1_borne_16 rfl (lv_at hl 0 rfl) ?_
        refine lv_iload hx hb dX1_borne_17 (lv_at hl 3 rfl) ?_
        refine q_callVi (As := [.int x4]) (rest := []) (wr := []) [0, 1, 2, 3, 4, 5] [] ⟨hx, hb, hml, hown, hts⟩ (c_M_placeOf l D g q leM ceM fM kM vM wiM moM waM wkM wvM x4 _ hw _) (cwV 1 hts gX1_borne_X1_placeOf rfl rfl rfl (by decide +kernel) ⟨Nat.le_of_ble_eq_true rfl, Nat.le_of_ble_eq_true rfl⟩) (va_recv hK hP (ci := 1) (q0 := 0) rfl rfl) hK hP hD hS hA rfl rfl rfl (by decide) (by decide) (by decide) rfl hl.1 rfl (Nat.le_of_ble_eq_true rfl) dX1_borne_19 ⟨Nat.zero_le _, Nat.zero_le _⟩ (fun r_3 u H locs hw hP hD hS => ?_)
        try dsimp only at hw
        replace hP : va_P D vwCl (wM g q leM ceM fM kM vM wiM moM waM wkM wvM) H := hP
        replace hD : va_D A (wM g q leM ceM fM kM vM wiM moM waM wkM wvM) := hD
        refine lv_iload_n hx hb dX1_borne_22 rfl (lv_at hl 1 rfl) ?_
        refine lv_icmp_ne (tgt := 35) hx hb dX1_borne_23 (by decide) (fun c_4 => ?_) (fun c_4 => ?_)
        · replace hw := hw.2 c_4
          refine lv_lload_n hx hb dX1_borne_35 rfl (lv_at hl 2 rfl) ?_
          refine lv_lstore_n (lv' := [(2, .long x2), (0, .ref (g 0)), (1, .int x1), (4, .int x4)]) hx hb dX1_borne_36 rfl hl (by decide) rfl (fun ls hl => ?_)
          refine lv_iinc (v := (x4 + 1)) (lv' := [(4, .int (x4 + 1)), (2, .long x2), (0, .ref (g 0)), (1, .int x1)]) hx hb dX1_borne_37 hl (k := 3) rfl rfl (by decide) rfl (fun ls hl => ?_)
          refine lv_goto (tgt := 7) hx hb dX1_borne_40 (by decide) ?_
          exact ih x2 (x4 + 1) hw _ _ ls hP hD hS (lv_sub hl [2, 3, 1, 0] rfl)
        · replace hw := hw.1 c_4
          refine lv_aload_n hx hb dX1_borne_26 rfl (lv_at hl 0 rfl) ?_
          refine lv_iload hx hb dX1_borne_27 (lv_at hl 3 rfl) ?_
          refine q_callVl (As := [.int x4]) (rest := []) (wr := []) [0, 1, 2, 3, 4, 5] [] ⟨hx, hb, hml, hown, hts⟩ (c_M_bears l D g q leM ceM fM kM vM wiM moM waM wkM wvM x4 _ hw _) (cwV 1 hts gX1_borne_X1_bears rfl rfl rfl (by decide +kernel) ⟨Nat.le_of_ble_eq_true rfl, Nat.le_of_ble_eq_true rfl⟩) (va_recv hK hP (ci := 1) (q0 := 0) rfl rfl) hK hP hD hS hA rfl rfl rfl (by decide) (by decide) (by decide) rfl hl.1 rfl (Nat.le_of_ble_eq_true rfl) dX1_borne_29 ⟨Nat.zero_le _, Nat.zero_le _⟩ (fun r_5 u H locs hw hP hD hS => ?_)
          try dsimp only at hw
          replace hP : va_P D vwCl (wM g q leM ceM fM kM vM wiM moM waM wkM wvM) H := hP
          replace hD : va_D A (wM g q leM ceM fM kM vM wiM moM waM wkM wvM) := hD
          refine lv_goto (tgt := 36) hx hb dX1_borne_32 (by decide) ?_
          refine lv_lstore_n (lv' := [(2, .long r_5), (0, .ref (g 0)), (1, .int x1), (4, .int x4)]) hx hb dX1_borne_36 rfl hl (by decide) rfl (fun ls hl => ?_)
          refine lv_iinc (v := (x4 + 1)) (lv' := [(4, .int (x4 + 1)), (2, .long r_5), (0, .ref (g 0)), (1, .int x1)]) hx hb dX1_borne_37 hl (k := 3) rfl rfl (by decide) rfl (fun ls hl => ?_)
          refine lv_goto (tgt := 7) hx hb dX1_borne_40 (by decide) ?_
          exact ih r_5 (x4 + 1) hw _ _ ls hP hD hS (lv_sub hl [2, 3, 1, 0] rfl)
  unfold wp_M_borne at hw
  refine lv_ldc2 (v := NOK) hx hb hown (hts _ (List.mem_cons_of_mem _ tcn_X1_40)) dX1_borne_0 ?_
  refine lv_lstore_n (lv' := [(2, .long NOK), (0, .ref (g 0)), (1, .int a1)]) hx hb dX1_borne_3 rfl hl (by decide) rfl (fun ls hl => ?_)
  refine lv_iconst (v := 1) hx hb dX1_borne_4 (by decide) ?_
  refine lv_istore (lv' := [(4, .int 1), (2, .long NOK), (0, .ref (g 0)), (1, .int a1)]) hx hb dX1_borne_5 hl (by decide) rfl (fun ls hl => ?_)
  obtain ⟨n0, hw⟩ := hw
  exact L7 a1 n0 NOK 1 hw _ _ ls hP hD hS (lv_sub hl [2, 3, 1, 0] rfl)
set_option maxHeartbeats 4000000 in
set_option maxRecDepth 100000 in
theorem c_M_touched (l : Launch) (D : va_G) (g : Nat → Nat) (q : Nat → ClassId) (leM : Int32) (ceM : Int32) (fM : Nat → Int32) (kM : Nat → Int64) (vM : Nat → Int64) (wiM : Int32) (moM : Int64) (waM : Int32) (wkM : Nat → Int64) (wvM : Nat → Int64) (a1 : Int64) (a3 : Int32) (post : Int32 → Prop) (hw : wp_M_touched ceM fM kM a1 a3 post) (sz : Nat) : Met l yX1_touched wsX1_touched ({ frames := 4, cells := 0, slots := 0, locals := 96 }) (qP D vwCl (tM q) (wM g q leM ceM fM kM vM wiM moM waM wkM wvM) sz [.ref (g 0), .long a1, .int a3]) (va_Qi (fun r (_ : Unit) => post r) (qB D vwCl (tM q) (fun _ : Unit => (wM g q leM ceM fM kM vM wiM moM waM wkM wvM)) (va_A (wM g q leM ceM fM kM vM wiM moM waM wkM wvM) sz)) (va_A (wM g q leM ceM fM kM vM wiM moM waM wkM wvM) sz)) 0 0 (va_A (wM g q leM ceM fM kM vM wiM moM waM wkM wvM) sz) := by
  refine q_enter (cc := cX1_touched) (maxL := 10) (ret := (some .int)) (fun A => va_Qi (fun r (_ : Unit) => post r) (qB D vwCl (tM q) (fun _ : Unit => (wM g q leM ceM fM kM vM wiM moM waM wkM wvM)) A) A) (by decide +kernel) rfl (Nat.le_of_ble_eq_true rfl) ?_
  intro p e s m below meth c A ls hx hb hr hml hown hts hlocks hname hP hK hD hA hl
  replace hown : s.vm.findClass RX1 = some m.cls := hown
  replace hl : lv_has ls 10 [(0, .ref (g 0)), (1, .long a1), (3, .int a3)] := hl
  have hS : va_S A s.heap s.heap [] := va_S.rf
  have hf_cells := hts _ (List.mem_cons_of_mem _ tfl_X1_33)
  have L38 : ∀ (x1 : Int64) (x3 : Int32) (x4 : Int32) (x5 : Int32) (n : Nat) (x6 : Int32) (x7 : Int32), wp_M_touched_L38 ceM fM kM x1 x3 x4 x5 post n x6 x7 → ∀ (H : Heap) (locs : List Loc) (ls : Array Slot), va_P D vwCl (wM g q leM ceM fM kM vM wiM moM waM wkM wvM) H → va_D A (wM g q leM ceM fM kM vM wiM moM waM wkM wvM) → va_S A s.heap H locs → lv_has ls 10 [(0, .ref (g 0)), (1, .long x1), (3, .int x3), (4, .int x4), (5, .int x5), (6, .int x6), (7, .int x7)] → W p l e { frames := 4, cells := 0, slots := 0, locals := 96 } s m ([.ref (g 0), .long a1, .int a3] : List Value).toArray below meth c H locs 0 0 (MQ below (va_Qi (fun r (_ : Unit) => post r) (qB D vwCl (tM q) (fun _ : Unit => (wM g q leM ceM fM kM vM wiM moM waM wkM wvM)) A) A) ([.ref (g 0), .long a1, .int a3] : List Value).toArray s 0 0 A) (F0 m 38 ls []) := by
    intro x1 x3 x4 x5 n
    induction n with
    | zero => intro x6 x7 hw; exact False.elim (show False from hw)
    | succ n ih =>
      intro x6 x7 hw H locs ls hP hD hS hl
      rw [wp_M_touched_L38] at hw
      have L105 : ∀ (x1 : Int64) (x3 : Int32) (x4 : Int32) (x5 : Int32) (x6 : Int32) (x7 : Int32) (ko38 : Int32 → Int32 → Prop) (hko38 : ∀ (y6 : Int32) (y7 : Int32), ko38 y6 y7 → ∀ (H : Heap) (locs : List Loc) (ls : Array Slot), va_P D vwCl (wM g q leM ceM fM kM vM wiM moM waM wkM wvM) H → va_D A (wM g q leM ceM fM kM vM wiM moM waM wkM wvM) → va_S A s.heap H locs → lv_has ls 10 [(0, .ref (g 0)), (1, .long x1), (3, .int x3), (4, .int x4), (5, .int x5), (6, .int y6), (7, .int y7)] → W p l e { frames := 4, cells := 0, slots := 0, locals := 96 } s m ([.ref (g 0), .long a1, .int a3] : List Value).toArray below meth c H locs 0 0 (MQ below (va_Qi (fun r (_ : Unit) => post r) (qB D vwCl (tM q) (fun _ : Unit => (wM g q leM ceM fM kM vM wiM moM waM wkM wvM)) A) A) ([.ref (g 0), .long a1, .int a3] : List Value).toArray s 0 0 A) (F0 m 38 ls [])) (n : Nat) (x8 : Int32) (x9 : Int32), wp_M_touched_L105 ko38 ceM fM kM x1 x3 x4 x5 x6 x7 post n x8 x9 → ∀ (H : Heap) (locs : List Loc) (ls : Array Slot), va_P D vwCl (wM g q leM ceM fM kM vM wiM moM waM wkM wvM) H → va_D A (wM g q leM ceM fM kM vM wiM moM waM wkM wvM) → va_S A s.heap H locs → lv_has ls 10 [(0, .ref (g 0)), (1, .long x1), (3, .int x3), (4, .int x4), (5, .int x5), (6, .int x6), (7, .int x7), (8, .int x8), (9, .int x9)] → W p l e { frames := 4, cells := 0, slots := 0, locals := 96 } s m ([.ref (g 0), .long a1, .int a3] : List Value).toArray below meth c H locs 0 0 (MQ below (va_Qi (fun r (_ : Unit) => post r) (qB D vwCl (tM q) (fun _ : Unit => (wM g q leM ceM fM kM vM wiM moM waM wkM wvM)) A) A) ([.ref (g 0), .long a1, .int a3] : List Value).toArray s 0 0 A) (F0 m 105 ls []) := by
        intro x1 x3 x4 x5 x6 x7 ko38 hko38 n
        induction n with
        | zero => intro x8 x9 hw; exact False.elim (show False from hw)
        | succ n ih =>
          intro x8 x9 hw H locs ls hP hD hS hl
          rw [wp_M_touched_L105] at hw
          refine lv_iload hx hb dX1_touched_105 (lv_at hl 8 rfl) ?_
          refine lv_aload_n hx hb dX1_touched_107 rfl (lv_at hl 0 rfl) ?_
          refine q_callVi (As := []) (rest := [.int x9]) (wr := []) [0, 1, 2, 3, 4, 5] [] ⟨hx, hb, hml, hown, hts⟩ (c_M_segments l D g q leM ceM fM kM vM wiM moM waM wkM wvM  _ hw _) (cwV 0 hts gX1_touched_X1_segments rfl rfl rfl (by decide +kernel) ⟨Nat.le_of_ble_eq_true rfl, Nat.le_of_ble_eq_true rfl⟩) (va_recv hK hP (ci := 1) (q0 := 0) rfl rfl) hK hP hD hS hA rfl rfl rfl (by decide) (by decide) (by decide) rfl hl.1 rfl (Nat.le_of_ble_eq_true rfl) dX1_touched_108 ⟨Nat.zero_le _, Nat.zero_le _⟩ (fun r_11 u H locs hw hP hD hS => ?_)
          try dsimp only at hw
          replace hP : va_P D vwCl (wM g q leM ceM fM kM vM wiM moM waM wkM wvM) H := hP
          replace hD : va_D A (wM g q leM ceM fM kM vM wiM moM waM wkM wvM) := hD
          refine lv_icmp_ge (tgt := 151) hx hb dX1_touched_111 (by decide) (fun c_12 => ?_) (fun c_12 => ?_)
          · replace hw := hw.1 c_12
            refine lv_iload hx hb dX1_touched_151 (lv_at hl 7 rfl) ?_
            refine lv_if_eq (tgt := 163) hx hb dX1_touched_153 (by decide) (fun c_13 => ?_) (fun c_13 => ?_)
            · replace hw := hw.1 c_13
              refine lv_iload hx hb dX1_touched_163 (lv_at hl 5 rfl) ?_
              refine lv_istore (lv' := [(6, .int x6), (0, .ref (g 0)), (1, .long x1), (3, .int x3), (4, .int x4), (5, .int x5), (7, .int x7), (8, .int x8), (9, .int x9)]) hx hb dX1_touched_165 hl (by decide) rfl (fun ls hl => ?_)
              refine lv_iinc (v := (x7 + 1)) (lv' := [(7, .int (x7 + 1)), (6, .int x6), (0, .ref (g 0)), (1, .long x1), (3, .int x3), (4, .int x4), (5, .int x5), (8, .int x8), (9, .int x9)]) hx hb dX1_touched_167 hl (k := 6) rfl rfl (by decide) rfl (fun ls hl => ?_)
              refine lv_goto (tgt := 38) hx hb dX1_touched_170 (by decide) ?_
              exact hko38 x6 (x7 + 1) hw _ _ ls hP hD hS (lv_sub hl [2, 3, 4, 5, 6, 1, 0] rfl)
            · replace hw := hw.2 c_13
              refine lv_iload hx hb dX1_touched_156 (lv_at hl 5 rfl) ?_
              refine lv_iconst (v := 1) hx hb dX1_touched_158 (by decide) ?_
              refine lv_iadd hx hb dX1_touched_159 ?_
              refine lv_goto (tgt := 165) hx hb dX1_touched_160 (by decide) ?_
              refine lv_istore (lv' := [(6, .int (x6 + 1)), (0, .ref (g 0)), (1, .long x1), (3, .int x3), (4, .int x4), (5, .int x5), (7, .int x7), (8, .int x8), (9, .int x9)]) hx hb dX1_touched_165 hl (by decide) rfl (fun ls hl => ?_)
              refine lv_iinc (v := (x7 + 1)) (lv' := [(7, .int (x7 + 1)), (6, .int (x6 + 1)), (0, .ref (g 0)), (1, .long x1), (3, .int x3), (4, .int x4), (5, .int x5), (8, .int x8), (9, .int x9)]) hx hb dX1_touched_167 hl (k := 6) rfl rfl (by decide) rfl (fun ls hl => ?_)
              refine lv_goto (tgt := 38) hx hb dX1_touched_170 (by decide) ?_
              exact hko38 (x6 + 1) (x7 + 1) hw _ _ ls hP hD hS (lv_sub hl [2, 3, 4, 5, 6, 1, 0] rfl)
          · replace hw := hw.2 c_12
            refine lv_iload hx hb dX1_touched_114 (lv_at hl 7 rfl) ?_
            refine lv_if_ne (tgt := 132) hx hb dX1_touched_116 (by decide) (fun c_14 => ?_) (fun c_14 => ?_)
            · replace hw := hw.2 c_14
              refine lv_iconst (v := 1) hx hb dX1_touched_132 (by decide) ?_
              refine lv_goto (tgt := 137) hx hb dX1_touched_133 (by decide) ?_
              refine lv_istore (lv' := [(8, .int 1), (0, .ref (g 0)), (1, .long x1), (3, .int x3), (4, .int x4), (5, .int x5), (6, .int x6), (7, .int x7), (9, .int x9)]) hx hb dX1_touched_137 hl (by decide) rfl (fun ls hl => ?_)
              refine lv_aload_n hx hb dX1_touched_139 rfl (lv_at hl 1 rfl) ?_
              refine lv_iload hx hb dX1_touched_140 (lv_at hl 8 rfl) ?_
              refine lv_lload_n hx hb dX1_touched_142 rfl (lv_at hl 2 rfl) ?_
              refine q_callVi (As := [.int x9, .long x1]) (rest := []) (wr := []) [0, 1, 2, 3, 4, 5] [] ⟨hx, hb, hml, hown, hts⟩ (c_M_step l D g q leM ceM fM kM vM wiM moM waM wkM wvM x9 x1 _ hw _) (cwV 2 hts gX1_touched_X1_step rfl rfl rfl (by decide +kernel) ⟨Nat.le_of_ble_eq_true rfl, Nat.le_of_ble_eq_true rfl⟩) (va_recv hK hP (ci := 1) (q0 := 0) rfl rfl) hK hP hD hS hA rfl rfl rfl (by decide) (by decide) (by decide) rfl hl.1 rfl (Nat.le_of_ble_eq_true rfl) dX1_touched_143 ⟨Nat.zero_le _, Nat.zero_le _⟩ (fun r_15 u H locs hw hP hD hS => ?_)
              try dsimp only at hw
              replace hP : va_P D vwCl (wM g q leM ceM fM kM vM wiM moM waM wkM wvM) H := hP
              replace hD : va_D A (wM g q leM ceM fM kM vM wiM moM waM wkM wvM) := hD
              refine lv_istore (lv' := [(9, .int r_15), (8, .int 1), (0, .ref (g 0)), (1, .long x1), (3, .int x3), (4, .int x4), (5, .int x5), (6, .int x6), (7, .int x7)]) hx hb dX1_touched_146 hl (by decide) rfl (fun ls hl => ?_)
              refine lv_goto (tgt := 105) hx hb dX1_touched_148 (by decide) ?_
              exact ih 1 r_15 hw _ _ ls hP hD hS (lv_sub hl [2, 3, 4, 5, 6, 7, 8, 1, 0] rfl)
            · replace hw := hw.1 c_14
              refine lv_aload_n hx hb dX1_touched_119 rfl (lv_at hl 0 rfl) ?_
              refine lv_iload hx hb dX1_touched_120 (lv_at hl 8 rfl) ?_
              refine q_callVi (As := [.int x9]) (rest := []) (wr := []) [0, 1, 2, 3, 4, 5] [] ⟨hx, hb, hml, hown, hts⟩ (c_M_placeOf l D g q leM ceM fM kM vM wiM moM waM wkM wvM x9 _ hw _) (cwV 1 hts gX1_touched_X1_placeOf rfl rfl rfl (by decide +kernel) ⟨Nat.le_of_ble_eq_true rfl, Nat.le_of_ble_eq_true rfl⟩) (va_recv hK hP (ci := 1) (q0 := 0) rfl rfl) hK hP hD hS hA rfl rfl rfl (by decide) (by decide) (by decide) rfl hl.1 rfl (Nat.le_of_ble_eq_true rfl) dX1_touched_122 ⟨Nat.zero_le _, Nat.zero_le _⟩ (fun r_16 u H locs hw hP hD hS => ?_)
              try dsimp only at hw
              replace hP : va_P D vwCl (wM g q leM ceM fM kM vM wiM moM waM wkM wvM) H := hP
              replace hD : va_D A (wM g q leM ceM fM kM vM wiM moM waM wkM wvM) := hD
              refine lv_iload_n hx hb dX1_touched_125 rfl (lv_at hl 2 rfl) ?_
              obtain ⟨hz_17, hw⟩ := hw
              refine lv_idiv hx hb dX1_touched_126 hz_17 ?_
              refine lv_iload hx hb dX1_touched_127 (lv_at hl 6 rfl) ?_
              refine lv_icmp_ne (tgt := 136) hx hb dX1_touched_129 (by decide) (fun c_18 => ?_) (fun c_18 => ?_)
              · replace hw := hw.2 c_18
                refine lv_iconst (v := 0) hx hb dX1_touched_136 (by decide) ?_
                refine lv_istore (lv' := [(8, .int 0), (0, .ref (g 0)), (1, .long x1), (3, .int x3), (4, .int x4), (5, .int x5), (6, .int x6), (7, .int x7), (9, .int x9)]) hx hb dX1_touched_137 hl (by decide) rfl (fun ls hl => ?_)
                refine lv_aload_n hx hb dX1_touched_139 rfl (lv_at hl 1 rfl) ?_
                refine lv_iload hx hb dX1_touched_140 (lv_at hl 8 rfl) ?_
                refine lv_lload_n hx hb dX1_touched_142 rfl (lv_at hl 2 rfl) ?_
                refine q_callVi (As := [.int x9, .long x1]) (rest := []) (wr := []) [0, 1, 2, 3, 4, 5] [] ⟨hx, hb, hml, hown, hts⟩ (c_M_step l D g q leM ceM fM kM vM wiM moM waM wkM wvM x9 x1 _ hw _) (cwV 2 hts gX1_touched_X1_step rfl rfl rfl (by decide +kernel) ⟨Nat.le_of_ble_eq_true rfl, Nat.le_of_ble_eq_true rfl⟩) (va_recv hK hP (ci := 1) (q0 := 0) rfl rfl) hK hP hD hS hA rfl rfl rfl (by decide) (by decide) (by decide) rfl hl.1 rfl (Nat.le_of_ble_eq_true rfl) dX1_touched_143 ⟨Nat.zero_le _, Nat.zero_le _⟩ (fun r_19 u H locs hw hP hD hS => ?_)
                try dsimp only at hw
                replace hP : va_P D vwCl (wM g q leM ceM fM kM vM wiM moM waM wkM wvM) H := hP
                replace hD : va_D A (wM g q leM ceM fM kM vM wiM moM waM wkM wvM) := hD
                refine lv_istore (lv' := [(9, .int r_19), (8, .int 0), (0, .ref (g 0)), (1, .long x1), (3, .int x3), (4, .int x4), (5, .int x5), (6, .int x6), (7, .int x7)]) hx hb dX1_touched_146 hl (by decide) rfl (fun ls hl => ?_)
                refine lv_goto (tgt := 105) hx hb dX1_touched_148 (by decide) ?_
                exact ih 0 r_19 hw _ _ ls hP hD hS (lv_sub hl [2, 3, 4, 5, 6, 7, 8, 1, 0] rfl)
              · replace hw := hw.1 c_18
                refine lv_iconst (v := 1) hx hb dX1_touched_132 (by decide) ?_
                refine lv_goto (tgt := 137) hx hb dX1_touched_133 (by decide) ?_
                refine lv_istore (lv' := [(8, .int 1), (0, .ref (g 0)), (1, .long x1), (3, .int x3), (4, .int x4), (5, .int x5), (6, .int x6), (7, .int x7), (9, .int x9)]) hx hb dX1_touched_137 hl (by decide) rfl (fun ls hl => ?_)
                refine lv_aload_n hx hb dX1_touched_139 rfl (lv_at hl 1 rfl) ?_
                refine lv_iload hx hb dX1_touched_140 (lv_at hl 8 rfl) ?_
                refine lv_lload_n hx hb dX1_touched_142 rfl (lv_at hl 2 rfl) ?_
                refine q_callVi (As := [.int x9, .long x1]) (rest := []) (wr := []) [0, 1, 2, 3, 4, 5] [] ⟨hx, hb, hml, hown, hts⟩ (c_M_step l D g q leM ceM fM kM vM wiM moM waM wkM wvM x9 x1 _ hw _) (cwV 2 hts gX1_touched_X1_step rfl rfl rfl (by decide +kernel) ⟨Nat.le_of_ble_eq_true rfl, Nat.le_of_ble_eq_true rfl⟩) (va_recv hK hP (ci := 1) (q0 := 0) rfl rfl) hK hP hD hS hA rfl rfl rfl (by decide) (by decide) (by decide) rfl hl.1 rfl (Nat.le_of_ble_eq_true rfl) dX1_touched_143 ⟨Nat.zero_le _, Nat.zero_le _⟩ (fun r_20 u H locs hw hP hD hS => ?_)
                try dsimp only at hw
                replace hP : va_P D vwCl (wM g q leM ceM fM kM vM wiM moM waM wkM wvM) H := hP
                replace hD : va_D A (wM g q leM ceM fM kM vM wiM moM waM wkM wvM) := hD
                refine lv_istore (lv' := [(9, .int r_20), (8, .int 1), (0, .ref (g 0)), (1, .long x1), (3, .int x3), (4, .int x4), (5, .int x5), (6, .int x6), (7, .int x7)]) hx hb dX1_touched_146 hl (by decide) rfl (fun ls hl => ?_)
                refine lv_goto (tgt := 105) hx hb dX1_touched_148 (by decide) ?_
                exact ih 1 r_20 hw _ _ ls hP hD hS (lv_sub hl [2, 3, 4, 5, 6, 7, 8, 1, 0] rfl)
      have L57 : ∀ (x1 : Int64) (x3 : Int32) (x4 : Int32) (x5 : Int32) (x6 : Int32) (x7 : Int32) (ko38 : Int32 → Int32 → Prop) (hko38 : ∀ (y6 : Int32) (y7 : Int32), ko38 y6 y7 → ∀ (H : Heap) (locs : List Loc) (ls : Array Slot), va_P D vwCl (wM g q leM ceM fM kM vM wiM moM waM wkM wvM) H → va_D A (wM g q leM ceM fM kM vM wiM moM waM wkM wvM) → va_S A s.heap H locs → lv_has ls 10 [(0, .ref (g 0)), (1, .long x1), (3, .int x3), (4, .int x4), (5, .int x5), (6, .int y6), (7, .int y7)] → W p l e { frames := 4, cells := 0, slots := 0, locals := 96 } s m ([.ref (g 0), .long a1, .int a3] : List Value).toArray below meth c H locs 0 0 (MQ below (va_Qi (fun r (_ : Unit) => post r) (qB D vwCl (tM q) (fun _ : Unit => (wM g q leM ceM fM kM vM wiM moM waM wkM wvM)) A) A) ([.ref (g 0), .long a1, .int a3] : List Value).toArray s 0 0 A) (F0 m 38 ls [])) (n : Nat) (x8 : Int32) (x9 : Int32), wp_M_touched_L57 ko38 ceM fM kM x1 x3 x4 x5 x6 x7 post n x8 x9 → ∀ (H : Heap) (locs : List Loc) (ls : Array Slot), va_P D vwCl (wM g q leM ceM fM kM vM wiM moM waM wkM wvM) H → va_D A (wM g q leM ceM fM kM vM wiM moM waM wkM wvM) → va_S A s.heap H locs → lv_has ls 10 [(0, .ref (g 0)), (1, .long x1), (3, .int x3), (4, .int x4), (5, .int x5), (6, .int x6), (7, .int x7), (8, .int x8), (9, .int x9)] → W p l e { frames := 4, cells := 0, slots := 0, locals := 96 } s m ([.ref (g 0), .long a1, .int a3] : List Value).toArray below meth c H locs 0 0 (MQ below (va_Qi (fun r (_ : Unit) => post r) (qB D vwCl (tM q) (fun _ : Unit => (wM g q leM ceM fM kM vM wiM moM waM wkM wvM)) A) A) ([.ref (g 0), .long a1, .int a3] : List Value).toArray s 0 0 A) (F0 m 57 ls []) := by
        intro x1 x3 x4 x5 x6 x7 ko38 hko38 n
        induction n with
        | zero => intro x8 x9 hw; exact False.elim (show False from hw)
        | succ n ih =>
          intro x8 x9 hw H locs ls hP hD hS hl
          rw [wp_M_touched_L57] at hw
          refine lv_iload hx hb dX1_touched_57 (lv_at hl 8 rfl) ?_
          refine lv_bipush (v := 8) hx hb dX1_touched_59 (by decide) ?_
          refine lv_iload hx hb dX1_touched_61 (lv_at hl 4 rfl) ?_
          refine lv_imul hx hb dX1_touched_63 ?_
          refine lv_bipush (v := 8) hx hb dX1_touched_64 (by decide) ?_
          refine lv_iadd hx hb dX1_touched_66 ?_
          refine lv_icmp_ge (tgt := 102) hx hb dX1_touched_67 (by decide) (fun c_6 => ?_) (fun c_6 => ?_)
          · replace hw := hw.1 c_6
            refine lv_iconst (v := 1) hx hb dX1_touched_102 (by decide) ?_
            refine lv_istore (lv' := [(9, .int 1), (0, .ref (g 0)), (1, .long x1), (3, .int x3), (4, .int x4), (5, .int x5), (6, .int x6), (7, .int x7), (8, .int x8)]) hx hb dX1_touched_103 hl (by decide) rfl (fun ls hl => ?_)
            obtain ⟨n0, hw⟩ := hw
            exact L105 x1 x3 x4 x5 x6 x7 _ hko38 n0 x8 1 hw _ _ ls hP hD hS (lv_sub hl [1, 2, 3, 4, 5, 6, 7, 8, 0] rfl)
          · replace hw := hw.2 c_6
            refine lv_iload hx hb dX1_touched_70 (lv_at hl 7 rfl) ?_
            refine lv_if_ne (tgt := 89) hx hb dX1_touched_72 (by decide) (fun c_7 => ?_) (fun c_7 => ?_)
            · replace hw := hw.2 c_7
              refine lv_iconst (v := 1) hx hb dX1_touched_89 (by decide) ?_
              refine lv_goto (tgt := 94) hx hb dX1_touched_90 (by decide) ?_
              refine lv_istore (lv' := [(8, .int 1), (0, .ref (g 0)), (1, .long x1), (3, .int x3), (4, .int x4), (5, .int x5), (6, .int x6), (7, .int x7), (9, .int x9)]) hx hb dX1_touched_94 hl (by decide) rfl (fun ls hl => ?_)
              refine lv_iinc (v := (x9 + 1)) (lv' := [(9, .int (x9 + 1)), (8, .int 1), (0, .ref (g 0)), (1, .long x1), (3, .int x3), (4, .int x4), (5, .int x5), (6, .int x6), (7, .int x7)]) hx hb dX1_touched_96 hl (k := 8) rfl rfl (by decide) rfl (fun ls hl => ?_)
              refine lv_goto (tgt := 57) hx hb dX1_touched_99 (by decide) ?_
              exact ih 1 (x9 + 1) hw _ _ ls hP hD hS (lv_sub hl [2, 3, 4, 5, 6, 7, 8, 1, 0] rfl)
            · replace hw := hw.1 c_7
              refine lv_aload_n hx hb dX1_touched_75 rfl (lv_at hl 0 rfl) ?_
              refine q_callVi (As := []) (rest := []) (wr := []) [0, 1, 2, 3, 4, 5] [] ⟨hx, hb, hml, hown, hts⟩ (c_M_segments l D g q leM ceM fM kM vM wiM moM waM wkM wvM  _ hw _) (cwV 0 hts gX1_touched_X1_segments rfl rfl rfl (by decide +kernel) ⟨Nat.le_of_ble_eq_true rfl, Nat.le_of_ble_eq_true rfl⟩) (va_recv hK hP (ci := 1) (q0 := 0) rfl rfl) hK hP hD hS hA rfl rfl rfl (by decide) (by decide) (by decide) rfl hl.1 rfl (Nat.le_of_ble_eq_true rfl) dX1_touched_76 ⟨Nat.zero_le _, Nat.zero_le _⟩ (fun r_8 u H locs hw hP hD hS => ?_)
              try dsimp only at hw
              replace hP : va_P D vwCl (wM g q leM ceM fM kM vM wiM moM waM wkM wvM) H := hP
              replace hD : va_D A (wM g q leM ceM fM kM vM wiM moM waM wkM wvM) := hD
              refine lv_iload hx hb dX1_touched_79 (lv_at hl 8 rfl) ?_
              refine lv_iadd hx hb dX1_touched_81 ?_
              refine lv_iload_n hx hb dX1_touched_82 rfl (lv_at hl 2 rfl) ?_
              obtain ⟨hz_9, hw⟩ := hw
              refine lv_idiv hx hb dX1_touched_83 hz_9 ?_
              refine lv_iload hx hb dX1_touched_84 (lv_at hl 6 rfl) ?_
              refine lv_icmp_ne (tgt := 93) hx hb dX1_touched_86 (by decide) (fun c_10 => ?_) (fun c_10 => ?_)
              · replace hw := hw.2 c_10
                refine lv_iconst (v := 0) hx hb dX1_touched_93 (by decide) ?_
                refine lv_istore (lv' := [(8, .int 0), (0, .ref (g 0)), (1, .long x1), (3, .int x3), (4, .int x4), (5, .int x5), (6, .int x6), (7, .int x7), (9, .int x9)]) hx hb dX1_touched_94 hl (by decide) rfl (fun ls hl => ?_)
                refine lv_iinc (v := (x9 + 1)) (lv' := [(9, .int (x9 + 1)), (8, .int 0), (0, .ref (g 0)), (1, .long x1), (3, .int x3), (4, .int x4), (5, .int x5), (6, .int x6), (7, .int x7)]) hx hb dX1_touched_96 hl (k := 8) rfl rfl (by decide) rfl (fun ls hl => ?_)
                refine lv_goto (tgt := 57) hx hb dX1_touched_99 (by decide) ?_
                exact ih 0 (x9 + 1) hw _ _ ls hP hD hS (lv_sub hl [2, 3, 4, 5, 6, 7, 8, 1, 0] rfl)
              · replace hw := hw.1 c_10
                refine lv_iconst (v := 1) hx hb dX1_touched_89 (by decide) ?_
                refine lv_goto (tgt := 94) hx hb dX1_touched_90 (by decide) ?_
                refine lv_istore (lv' := [(8, .int 1), (0, .ref (g 0)), (1, .long x1), (3, .int x3), (4, .int x4), (5, .int x5), (6, .int x6), (7, .int x7), (9, .int x9)]) hx hb dX1_touched_94 hl (by decide) rfl (fun ls hl => ?_)
                refine lv_iinc (v := (x9 + 1)) (lv' := [(9, .int (x9 + 1)), (8, .int 1), (0, .ref (g 0)), (1, .long x1), (3, .int x3), (4, .int x4), (5, .int x5), (6, .int x6), (7, .int x7)]) hx hb dX1_touched_96 hl (k := 8) rfl rfl (by decide) rfl (fun ls hl => ?_)
                refine lv_goto (tgt := 57) hx hb dX1_touched_99 (by decide) ?_
                exact ih 1 (x9 + 1) hw _ _ ls hP hD hS (lv_sub hl [2, 3, 4, 5, 6, 7, 8, 1, 0] rfl)
      refine lv_iload hx hb dX1_touched_38 (lv_at hl 6 rfl) ?_
      refine lv_iload_n hx hb dX1_touched_40 rfl (lv_at hl 2 rfl) ?_
      refine lv_imul hx hb dX1_touched_41 ?_
      refine lv_iload hx hb dX1_touched_42 (lv_at hl 3 rfl) ?_
      refine lv_icmp_ge (tgt := 173) hx hb dX1_touched_44 (by decide) (fun c_5 => ?_) (fun c_5 => ?_)
      · replace hw := hw.1 c_5
        refine lv_iload hx hb dX1_touched_173 (lv_at hl 5 rfl) ?_
        exact q_iret () hx hb hr hlocks hK dX1_touched_175 hS hP hD hw
      · replace hw := hw.2 c_5
        refine lv_iconst (v := 0) hx hb dX1_touched_47 (by decide) ?_
        refine lv_istore (lv' := [(8, .int 0), (0, .ref (g 0)), (1, .long x1), (3, .int x3), (4, .int x4), (5, .int x5), (6, .int x6), (7, .int x7)]) hx hb dX1_touched_48 hl (by decide) rfl (fun ls hl => ?_)
        refine lv_bipush (v := 8) hx hb dX1_touched_50 (by decide) ?_
        refine lv_iload hx hb dX1_touched_52 (lv_at hl 5 rfl) ?_
        refine lv_imul hx hb dX1_touched_54 ?_
        refine lv_istore (lv' := [(9, .int (8 * x5)), (8, .int 0), (0, .ref (g 0)), (1, .long x1), (3, .int x3), (4, .int x4), (5, .int x5), (6, .int x6), (7, .int x7)]) hx hb dX1_touched_55 hl (by decide) rfl (fun ls hl => ?_)
        obtain ⟨n0, hw⟩ := hw
        exact L57 x1 x3 x4 x5 x6 x7 _ ih n0 0 (8 * x5) hw _ _ ls hP hD hS (lv_sub hl [2, 3, 4, 5, 6, 7, 8, 1, 0] rfl)
  unfold wp_M_touched at hw
  refine lv_iload_n hx hb dX1_touched_0 rfl (lv_at hl 2 rfl) ?_
  refine lv_iconst (v := 1) hx hb dX1_touched_1 (by decide) ?_
  refine lv_icmp_lt (tgt := 12) hx hb dX1_touched_2 (by decide) (fun c_1 => ?_) (fun c_1 => ?_)
  · replace hw := hw.1 c_1
    refine lv_iconst (v := (-1)) hx hb dX1_touched_12 (by decide) ?_
    exact q_iret () hx hb hr hlocks hK dX1_touched_13 hS hP hD hw
  · replace hw := hw.2 c_1
    refine lv_iload_n hx hb dX1_touched_5 rfl (lv_at hl 2 rfl) ?_
    refine lv_sipush (v := 1024) hx hb dX1_touched_6 (by decide) ?_
    refine lv_icmp_le (tgt := 14) hx hb dX1_touched_9 (by decide) (fun c_2 => ?_) (fun c_2 => ?_)
    · replace hw := hw.1 c_2
      refine lv_aload_n hx hb dX1_touched_14 rfl (lv_at hl 0 rfl) ?_
      refine va_get (D := D) (ci := 1) (v := .int ceM) (C := RX1) (T := TX1) (N := 10) hx hb hts (fun w h => List.mem_cons_of_mem _ (iX1 w h)) hown hK hP 0 rfl rfl 1 (by decide) hf_cells (fun _ h9 => h9) rfl dX1_touched_15 ?_
      refine lv_aload_n hx hb dX1_touched_18 rfl (lv_at hl 0 rfl) ?_
      refine q_callVi (As := []) (rest := [.int ceM]) (wr := []) [0, 1, 2, 3, 4, 5] [] ⟨hx, hb, hml, hown, hts⟩ (c_M_segments l D g q leM ceM fM kM vM wiM moM waM wkM wvM  _ hw _) (cwV 0 hts gX1_touched_X1_segments rfl rfl rfl (by decide +kernel) ⟨Nat.le_of_ble_eq_true rfl, Nat.le_of_ble_eq_true rfl⟩) (va_recv hK hP (ci := 1) (q0 := 0) rfl rfl) hK hP hD hS hA rfl rfl rfl (by decide) (by decide) (by decide) rfl hl.1 rfl (Nat.le_of_ble_eq_true rfl) dX1_touched_19 ⟨Nat.zero_le _, Nat.zero_le _⟩ (fun r_3 u H locs hw hP hD hS => ?_)
      try dsimp only at hw
      replace hP : va_P D vwCl (wM g q leM ceM fM kM vM wiM moM waM wkM wvM) H := hP
      replace hD : va_D A (wM g q leM ceM fM kM vM wiM moM waM wkM wvM) := hD
      refine lv_iadd hx hb dX1_touched_22 ?_
      refine lv_istore (lv' := [(4, .int (ceM + r_3)), (0, .ref (g 0)), (1, .long a1), (3, .int a3)]) hx hb dX1_touched_23 hl (by decide) rfl (fun ls hl => ?_)
      refine lv_aload_n hx hb dX1_touched_25 rfl (lv_at hl 1 rfl) ?_
      refine lv_lload_n hx hb dX1_touched_26 rfl (lv_at hl 2 rfl) ?_
      refine q_callVi (As := [.long a1]) (rest := []) (wr := []) [0, 1, 2, 3, 4, 5] [] ⟨hx, hb, hml, hown, hts⟩ (c_M_seek l D g q leM ceM fM kM vM wiM moM waM wkM wvM a1 _ hw _) (cwV 1 hts gX1_touched_X1_seek rfl rfl rfl (by decide +kernel) ⟨Nat.le_of_ble_eq_true rfl, Nat.le_of_ble_eq_true rfl⟩) (va_recv hK hP (ci := 1) (q0 := 0) rfl rfl) hK hP hD hS hA rfl rfl rfl (by decide) (by decide) (by decide) rfl hl.1 rfl (Nat.le_of_ble_eq_true rfl) dX1_touched_27 ⟨Nat.zero_le _, Nat.zero_le _⟩ (fun r_4 u H locs hw hP hD hS => ?_)
      try dsimp only at hw
      replace hP : va_P D vwCl (wM g q leM ceM fM kM vM wiM moM waM wkM wvM) H := hP
      replace hD : va_D A (wM g q leM ceM fM kM vM wiM moM waM wkM wvM) := hD
      refine lv_istore (lv' := [(5, .int r_4), (4, .int (ceM + r_3)), (0, .ref (g 0)), (1, .long a1), (3, .int a3)]) hx hb dX1_touched_30 hl (by decide) rfl (fun ls hl => ?_)
      refine lv_iconst (v := 0) hx hb dX1_touched_32 (by decide) ?_
      refine lv_istore (lv' := [(6, .int 0), (5, .int r_4), (4, .int (ceM + r_3)), (0, .ref (g 0)), (1, .long a1), (3, .int a3)]) hx hb dX1_touched_33 hl (by decide) rfl (fun ls hl => ?_)
      refine lv_iconst (v := 0) hx hb dX1_touched_35 (by decide) ?_
      refine lv_istore (lv' := [(7, .int 0), (6, .int 0), (5, .int r_4), (4, .int (ceM + r_3)), (0, .ref (g 0)), (1, .long a1), (3, .int a3)]) hx hb dX1_touched_36 hl (by decide) rfl (fun ls hl => ?_)
      obtain ⟨n0, hw⟩ := hw
      exact L38 a1 a3 (ceM + r_3) r_4 n0 0 0 hw _ _ ls hP hD hS (lv_sub hl [4, 5, 6, 3, 2, 1, 0] rfl)
    · replace hw := hw.2 c_2
      refine lv_iconst (v := (-1)) hx hb dX1_touched_12 (by decide) ?_
      exact q_iret () hx hb hr hlocks hK dX1_touched_13 hS hP hD hw
set_option maxHeartbeats 4000000 in
set_option maxRecDepth 100000 in
theorem c_M_most (l : Launch) (D : va_G) (g : Nat → Nat) (q : Nat → ClassId) (leM : Int32) (ceM : Int32) (fM : Nat → Int32) (kM : Nat → Int64) (vM : Nat → Int64) (wiM : Int32) (moM : Int64) (waM : Int32) (wkM : Nat → Int64) (wvM : Nat → Int64) (a1 : Int32) (post : Int32 → Prop) (hw : wp_M_most ceM a1 post) (sz : Nat) : Met l yX1_most wsX1_most ({ frames := 2, cells := 0, slots := 0, locals := 42 }) (qP D vwCl (tM q) (wM g q leM ceM fM kM vM wiM moM waM wkM wvM) sz [.ref (g 0), .int a1]) (va_Qi (fun r (_ : Unit) => post r) (qB D vwCl (tM q) (fun _ : Unit => (wM g q leM ceM fM kM vM wiM moM waM wkM wvM)) (va_A (wM g q leM ceM fM kM vM wiM moM waM wkM wvM) sz)) (va_A (wM g q leM ceM fM kM vM wiM moM waM wkM wvM) sz)) 0 0 (va_A (wM g q leM ceM fM kM vM wiM moM waM wkM wvM) sz) := by
  refine q_enter (cc := cX1_most) (maxL := 3) (ret := (some .int)) (fun A => va_Qi (fun r (_ : Unit) => post r) (qB D vwCl (tM q) (fun _ : Unit => (wM g q leM ceM fM kM vM wiM moM waM wkM wvM)) A) A) (by decide +kernel) rfl (Nat.le_of_ble_eq_true rfl) ?_
  intro p e s m below meth c A ls hx hb hr hml hown hts hlocks hname hP hK hD hA hl
  replace hown : s.vm.findClass RX1 = some m.cls := hown
  replace hl : lv_has ls 3 [(0, .ref (g 0)), (1, .int a1)] := hl
  have hS : va_S A s.heap s.heap [] := va_S.rf
  unfold wp_M_most at hw
  refine lv_aload_n hx hb dX1_most_0 rfl (lv_at hl 0 rfl) ?_
  refine q_callVi (As := []) (rest := []) (wr := []) [0, 1, 2, 3, 4, 5] [] ⟨hx, hb, hml, hown, hts⟩ (c_M_levels l D g q leM ceM fM kM vM wiM moM waM wkM wvM  _ hw _) (cwV 0 hts gX1_most_X1_levels rfl rfl rfl (by decide +kernel) ⟨Nat.le_of_ble_eq_true rfl, Nat.le_of_ble_eq_true rfl⟩) (va_recv hK hP (ci := 1) (q0 := 0) rfl rfl) hK hP hD hS hA rfl rfl rfl (by decide) (by decide) (by decide) rfl hl.1 rfl (Nat.le_of_ble_eq_true rfl) dX1_most_1 ⟨Nat.zero_le _, Nat.zero_le _⟩ (fun r_1 u H locs hw hP hD hS => ?_)
  try dsimp only at hw
  replace hP : va_P D vwCl (wM g q leM ceM fM kM vM wiM moM waM wkM wvM) H := hP
  replace hD : va_D A (wM g q leM ceM fM kM vM wiM moM waM wkM wvM) := hD
  refine lv_istore_n (lv' := [(2, .int r_1), (0, .ref (g 0)), (1, .int a1)]) hx hb dX1_most_4 rfl hl (by decide) rfl (fun ls hl => ?_)
  refine lv_bipush (v := 8) hx hb dX1_most_5 (by decide) ?_
  refine lv_iload_n hx hb dX1_most_7 rfl (lv_at hl 2 rfl) ?_
  refine lv_ishl hx hb dX1_most_8 ?_
  refine lv_iconst (v := 4) hx hb dX1_most_9 (by decide) ?_
  refine lv_iload_n hx hb dX1_most_10 rfl (lv_at hl 0 rfl) ?_
  refine lv_imul hx hb dX1_most_11 ?_
  refine lv_iload_n hx hb dX1_most_12 rfl (lv_at hl 2 rfl) ?_
  refine lv_isub hx hb dX1_most_13 ?_
  refine lv_imul hx hb dX1_most_14 ?_
  refine lv_iconst (v := 4) hx hb dX1_most_15 (by decide) ?_
  refine lv_iload_n hx hb dX1_most_16 rfl (lv_at hl 0 rfl) ?_
  refine lv_imul hx hb dX1_most_17 ?_
  obtain ⟨hz_2, hw⟩ := hw
  refine lv_idiv hx hb dX1_most_18 hz_2 ?_
  exact q_iret () hx hb hr hlocks hK dX1_most_19 hS hP hD hw
set_option maxHeartbeats 4000000 in
set_option maxRecDepth 100000 in
theorem c_M_fewest (l : Launch) (D : va_G) (g : Nat → Nat) (q : Nat → ClassId) (leM : Int32) (ceM : Int32) (fM : Nat → Int32) (kM : Nat → Int64) (vM : Nat → Int64) (wiM : Int32) (moM : Int64) (waM : Int32) (wkM : Nat → Int64) (wvM : Nat → Int64) (a1 : Int32) (post : Int32 → Prop) (hw : wp_M_fewest ceM a1 post) (sz : Nat) : Met l yX1_fewest wsX1_fewest ({ frames := 2, cells := 0, slots := 0, locals := 42 }) (qP D vwCl (tM q) (wM g q leM ceM fM kM vM wiM moM waM wkM wvM) sz [.ref (g 0), .int a1]) (va_Qi (fun r (_ : Unit) => post r) (qB D vwCl (tM q) (fun _ : Unit => (wM g q leM ceM fM kM vM wiM moM waM wkM wvM)) (va_A (wM g q leM ceM fM kM vM wiM moM waM wkM wvM) sz)) (va_A (wM g q leM ceM fM kM vM wiM moM waM wkM wvM) sz)) 0 0 (va_A (wM g q leM ceM fM kM vM wiM moM waM wkM wvM) sz) := by
  refine q_enter (cc := cX1_fewest) (maxL := 3) (ret := (some .int)) (fun A => va_Qi (fun r (_ : Unit) => post r) (qB D vwCl (tM q) (fun _ : Unit => (wM g q leM ceM fM kM vM wiM moM waM wkM wvM)) A) A) (by decide +kernel) rfl (Nat.le_of_ble_eq_true rfl) ?_
  intro p e s m below meth c A ls hx hb hr hml hown hts hlocks hname hP hK hD hA hl
  replace hown : s.vm.findClass RX1 = some m.cls := hown
  replace hl : lv_has ls 3 [(0, .ref (g 0)), (1, .int a1)] := hl
  have hS : va_S A s.heap s.heap [] := va_S.rf
  unfold wp_M_fewest at hw
  refine lv_aload_n hx hb dX1_fewest_0 rfl (lv_at hl 0 rfl) ?_
  refine q_callVi (As := []) (rest := []) (wr := []) [0, 1, 2, 3, 4, 5] [] ⟨hx, hb, hml, hown, hts⟩ (c_M_levels l D g q leM ceM fM kM vM wiM moM waM wkM wvM  _ hw _) (cwV 0 hts gX1_fewest_X1_levels rfl rfl rfl (by decide +kernel) ⟨Nat.le_of_ble_eq_true rfl, Nat.le_of_ble_eq_true rfl⟩) (va_recv hK hP (ci := 1) (q0 := 0) rfl rfl) hK hP hD hS hA rfl rfl rfl (by decide) (by decide) (by decide) rfl hl.1 rfl (Nat.le_of_ble_eq_true rfl) dX1_fewest_1 ⟨Nat.zero_le _, Nat.zero_le _⟩ (fun r_1 u H locs hw hP hD hS => ?_)
  try dsimp only at hw
  replace hP : va_P D vwCl (wM g q leM ceM fM kM vM wiM moM waM wkM wvM) H := hP
  replace hD : va_D A (wM g q leM ceM fM kM vM wiM moM waM wkM wvM) := hD
  refine lv_istore_n (lv' := [(2, .int r_1), (0, .ref (g 0)), (1, .int a1)]) hx hb dX1_fewest_4 rfl hl (by decide) rfl (fun ls hl => ?_)
  refine lv_bipush (v := 8) hx hb dX1_fewest_5 (by decide) ?_
  refine lv_iload_n hx hb dX1_fewest_7 rfl (lv_at hl 2 rfl) ?_
  refine lv_ishl hx hb dX1_fewest_8 ?_
  refine lv_iload_n hx hb dX1_fewest_9 rfl (lv_at hl 0 rfl) ?_
  refine lv_iload_n hx hb dX1_fewest_10 rfl (lv_at hl 2 rfl) ?_
  refine lv_iadd hx hb dX1_fewest_11 ?_
  refine lv_imul hx hb dX1_fewest_12 ?_
  refine lv_bipush (v := 8) hx hb dX1_fewest_13 (by decide) ?_
  refine lv_iload_n hx hb dX1_fewest_15 rfl (lv_at hl 0 rfl) ?_
  refine lv_imul hx hb dX1_fewest_16 ?_
  refine lv_iadd hx hb dX1_fewest_17 ?_
  refine lv_iconst (v := 1) hx hb dX1_fewest_18 (by decide) ?_
  refine lv_isub hx hb dX1_fewest_19 ?_
  refine lv_bipush (v := 8) hx hb dX1_fewest_20 (by decide) ?_
  refine lv_iload_n hx hb dX1_fewest_22 rfl (lv_at hl 0 rfl) ?_
  refine lv_imul hx hb dX1_fewest_23 ?_
  obtain ⟨hz_2, hw⟩ := hw
  refine lv_idiv hx hb dX1_fewest_24 hz_2 ?_
  exact q_iret () hx hb hr hlocks hK dX1_fewest_25 hS hP hD hw
set_option maxHeartbeats 4000000 in
set_option maxRecDepth 100000 in
theorem c_M_firstOf (l : Launch) (D : va_G) (a0 : Int32) (a1 : Int32) (post : Int32 → Prop) (hw : wp_M_firstOf a0 a1 post) (sz : Nat) : Met l yX1_firstOf wsX1_firstOf ({ frames := 0, cells := 0, slots := 0, locals := 0 }) (qP D vwCl [] [] sz [.int a0, .int a1]) (va_Qi (fun r (_ : Unit) => post r) (qB D vwCl [] (fun _ : Unit => []) (va_A [] sz)) (va_A [] sz)) 0 0 (va_A [] sz) := by
  refine q_enter (cc := cX1_firstOf) (maxL := 2) (ret := (some .int)) (fun A => va_Qi (fun r (_ : Unit) => post r) (qB D vwCl [] (fun _ : Unit => []) A) A) (by decide +kernel) rfl (Nat.le_of_ble_eq_true rfl) ?_
  intro p e s m below meth c A ls hx hb hr hml hown hts hlocks hname hP hK hD hA hl
  replace hown : s.vm.findClass RX1 = some m.cls := hown
  replace hl : lv_has ls 2 [(0, .int a0), (1, .int a1)] := hl
  have hS : va_S A s.heap s.heap [] := va_S.rf
  unfold wp_M_firstOf at hw
  refine lv_iload_n hx hb dX1_firstOf_0 rfl (lv_at hl 0 rfl) ?_
  refine lv_iload_n hx hb dX1_firstOf_1 rfl (lv_at hl 1 rfl) ?_
  refine lv_ishr hx hb dX1_firstOf_2 ?_
  refine lv_iload_n hx hb dX1_firstOf_3 rfl (lv_at hl 1 rfl) ?_
  refine lv_ishl hx hb dX1_firstOf_4 ?_
  refine lv_bipush (v := 8) hx hb dX1_firstOf_5 (by decide) ?_
  refine lv_imul hx hb dX1_firstOf_7 ?_
  exact q_iret () hx hb hr hlocks hK dX1_firstOf_8 hS hP hD hw
set_option maxHeartbeats 4000000 in
set_option maxRecDepth 100000 in
theorem c_M_held (l : Launch) (D : va_G) (g : Nat → Nat) (q : Nat → ClassId) (leM : Int32) (ceM : Int32) (fM : Nat → Int32) (kM : Nat → Int64) (vM : Nat → Int64) (wiM : Int32) (moM : Int64) (waM : Int32) (wkM : Nat → Int64) (wvM : Nat → Int64) (a1 : Int32) (a2 : Int32) (post : Int32 → Prop) (hw : wp_M_held fM a1 a2 post) (sz : Nat) : Met l yX1_held wsX1_held ({ frames := 0, cells := 0, slots := 0, locals := 0 }) (qP D vwCl (tM q) (wM g q leM ceM fM kM vM wiM moM waM wkM wvM) sz [.ref (g 0), .int a1, .int a2]) (va_Qi (fun r (_ : Unit) => post r) (qB D vwCl (tM q) (fun _ : Unit => (wM g q leM ceM fM kM vM wiM moM waM wkM wvM)) (va_A (wM g q leM ceM fM kM vM wiM moM waM wkM wvM) sz)) (va_A (wM g q leM ceM fM kM vM wiM moM waM wkM wvM) sz)) 0 0 (va_A (wM g q leM ceM fM kM vM wiM moM waM wkM wvM) sz) := by
  refine q_enter (cc := cX1_held) (maxL := 5) (ret := (some .int)) (fun A => va_Qi (fun r (_ : Unit) => post r) (qB D vwCl (tM q) (fun _ : Unit => (wM g q leM ceM fM kM vM wiM moM waM wkM wvM)) A) A) (by decide +kernel) rfl (Nat.le_of_ble_eq_true rfl) ?_
  intro p e s m below meth c A ls hx hb hr hml hown hts hlocks hname hP hK hD hA hl
  replace hown : s.vm.findClass RX1 = some m.cls := hown
  replace hl : lv_has ls 5 [(0, .ref (g 0)), (1, .int a1), (2, .int a2)] := hl
  have hS : va_S A s.heap s.heap [] := va_S.rf
  have hf_full := hts _ (List.mem_cons_of_mem _ tfl_X1_7)
  have L5 : ∀ (x1 : Int32) (x2 : Int32) (n : Nat) (x3 : Int32) (x4 : Int32), wp_M_held_L5 fM x1 x2 post n x3 x4 → ∀ (H : Heap) (locs : List Loc) (ls : Array Slot), va_P D vwCl (wM g q leM ceM fM kM vM wiM moM waM wkM wvM) H → va_D A (wM g q leM ceM fM kM vM wiM moM waM wkM wvM) → va_S A s.heap H locs → lv_has ls 5 [(0, .ref (g 0)), (1, .int x1), (2, .int x2), (3, .int x3), (4, .int x4)] → W p l e { frames := 0, cells := 0, slots := 0, locals := 0 } s m ([.ref (g 0), .int a1, .int a2] : List Value).toArray below meth c H locs 0 0 (MQ below (va_Qi (fun r (_ : Unit) => post r) (qB D vwCl (tM q) (fun _ : Unit => (wM g q leM ceM fM kM vM wiM moM waM wkM wvM)) A) A) ([.ref (g 0), .int a1, .int a2] : List Value).toArray s 0 0 A) (F0 m 5 ls []) := by
    intro x1 x2 n
    induction n with
    | zero => intro x3 x4 hw; exact False.elim (show False from hw)
    | succ n ih =>
      intro x3 x4 hw H locs ls hP hD hS hl
      rw [wp_M_held_L5] at hw
      refine lv_iload hx hb dX1_held_5 (lv_at hl 4 rfl) ?_
      refine lv_iload_n hx hb dX1_held_7 rfl (lv_at hl 1 rfl) ?_
      refine lv_iload_n hx hb dX1_held_8 rfl (lv_at hl 2 rfl) ?_
      refine lv_iadd hx hb dX1_held_9 ?_
      refine lv_icmp_ge (tgt := 37) hx hb dX1_held_10 (by decide) (fun c_1 => ?_) (fun c_1 => ?_)
      · replace hw := hw.1 c_1
        refine lv_iload_n hx hb dX1_held_37 rfl (lv_at hl 3 rfl) ?_
        exact q_iret () hx hb hr hlocks hK dX1_held_38 hS hP hD hw
      · replace hw := hw.2 c_1
        refine lv_iload_n hx hb dX1_held_13 rfl (lv_at hl 3 rfl) ?_
        refine lv_aload_n hx hb dX1_held_14 rfl (lv_at hl 0 rfl) ?_
        refine va_get (D := D) (ci := 1) (v := .ref (g 1)) (C := RX1) (T := TX1) (N := 10) hx hb hts (fun w h => List.mem_cons_of_mem _ (iX1 w h)) hown hK hP 0 rfl rfl 2 (by decide) hf_full (fun _ h9 => h9) rfl dX1_held_15 ?_
        refine lv_iload hx hb dX1_held_18 (lv_at hl 4 rfl) ?_
        obtain ⟨hi_2, hw⟩ := hw
        refine va_zald hx hb hK hP 1 0 rfl rfl hi_2 dX1_held_20 ?_
        refine lv_if_eq (tgt := 28) hx hb dX1_held_21 (by decide) (fun c_3 => ?_) (fun c_3 => ?_)
        · replace hw := hw.1 c_3
          refine lv_iconst (v := 0) hx hb dX1_held_28 (by decide) ?_
          refine lv_iadd hx hb dX1_held_29 ?_
          refine lv_istore_n (lv' := [(3, .int (x3 + 0)), (0, .ref (g 0)), (1, .int x1), (2, .int x2), (4, .int x4)]) hx hb dX1_held_30 rfl hl (by decide) rfl (fun ls hl => ?_)
          refine lv_iinc (v := (x4 + 1)) (lv' := [(4, .int (x4 + 1)), (3, .int (x3 + 0)), (0, .ref (g 0)), (1, .int x1), (2, .int x2)]) hx hb dX1_held_31 hl (k := 4) rfl rfl (by decide) rfl (fun ls hl => ?_)
          refine lv_goto (tgt := 5) hx hb dX1_held_34 (by decide) ?_
          exact ih (x3 + 0) (x4 + 1) hw _ _ ls hP hD hS (lv_sub hl [2, 3, 4, 1, 0] rfl)
        · replace hw := hw.2 c_3
          refine lv_iconst (v := 1) hx hb dX1_held_24 (by decide) ?_
          refine lv_goto (tgt := 29) hx hb dX1_held_25 (by decide) ?_
          refine lv_iadd hx hb dX1_held_29 ?_
          refine lv_istore_n (lv' := [(3, .int (x3 + 1)), (0, .ref (g 0)), (1, .int x1), (2, .int x2), (4, .int x4)]) hx hb dX1_held_30 rfl hl (by decide) rfl (fun ls hl => ?_)
          refine lv_iinc (v := (x4 + 1)) (lv' := [(4, .int (x4 + 1)), (3, .int (x3 + 1)), (0, .ref (g 0)), (1, .int x1), (2, .int x2)]) hx hb dX1_held_31 hl (k := 4) rfl rfl (by decide) rfl (fun ls hl => ?_)
          refine lv_goto (tgt := 5) hx hb dX1_held_34 (by decide) ?_
          exact ih (x3 + 1) (x4 + 1) hw _ _ ls hP hD hS (lv_sub hl [2, 3, 4, 1, 0] rfl)
  unfold wp_M_held at hw
  refine lv_iconst (v := 0) hx hb dX1_held_0 (by decide) ?_
  refine lv_istore_n (lv' := [(3, .int 0), (0, .ref (g 0)), (1, .int a1), (2, .int a2)]) hx hb dX1_held_1 rfl hl (by decide) rfl (fun ls hl => ?_)
  refine lv_iload_n hx hb dX1_held_2 rfl (lv_at hl 2 rfl) ?_
  refine lv_istore (lv' := [(4, .int a1), (3, .int 0), (0, .ref (g 0)), (1, .int a1), (2, .int a2)]) hx hb dX1_held_3 hl (by decide) rfl (fun ls hl => ?_)
  obtain ⟨n0, hw⟩ := hw
  exact L5 a1 a2 n0 0 a1 hw _ _ ls hP hD hS (lv_sub hl [2, 3, 4, 1, 0] rfl)
