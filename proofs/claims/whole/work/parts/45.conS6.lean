set_option maxHeartbeats 4000000 in
set_option maxRecDepth 100000 in
theorem c_S_place (l : Launch) (D : va_G) (g : Nat → Nat) (q : Nat → ClassId) (kS : Nat → Int64) (vS : Nat → Int64) (bS : Nat → Int32) (llS : Int32) (lvS : Int32) (lhS : Int32) (mvS : Int64) (a1 : Int32) (post : Int32 → Prop) (hw : wp_S_place lvS a1 post) (sz : Nat) : Met l yX0_place wsX0_place ({ frames := 11, cells := 0, slots := 0, locals := 566 }) (qP D vwCl (tS q) (wS g q kS vS bS llS lvS lhS mvS) sz [.ref (g 0), .int a1]) (va_Qi (fun r (_ : Unit) => post r) (qB D vwCl (tS q) (fun _ : Unit => (wS g q kS vS bS llS lvS lhS mvS)) (va_A (wS g q kS vS bS llS lvS lhS mvS) sz)) (va_A (wS g q kS vS bS llS lvS lhS mvS) sz)) 0 0 (va_A (wS g q kS vS bS llS lvS lhS mvS) sz) := by
  refine q_enter (cc := cX0_place) (maxL := 2) (ret := (some .int)) (fun A => va_Qi (fun r (_ : Unit) => post r) (qB D vwCl (tS q) (fun _ : Unit => (wS g q kS vS bS llS lvS lhS mvS)) A) A) (by decide +kernel) rfl (Nat.le_of_ble_eq_true rfl) ?_
  intro p e s m below meth c A ls hx hb hr hml hown hts hlocks hname hP hK hD hA hl
  replace hown : s.vm.findClass RX0 = some m.cls := hown
  replace hl : lv_has ls 2 [(0, .ref (g 0)), (1, .int a1)] := hl
  have hS : va_S A s.heap s.heap [] := va_S.rf
  have hf_levels := hts _ (List.mem_cons_of_mem _ tfl_X0_32)
  unfold wp_S_place at hw
  refine lv_iload_n hx hb dX0_place_0 rfl (lv_at hl 1 rfl) ?_
  refine lv_iconst (v := 1) hx hb dX0_place_1 (by decide) ?_
  refine lv_icmp_lt (tgt := 13) hx hb dX0_place_2 (by decide) (fun c_1 => ?_) (fun c_1 => ?_)
  · replace hw := hw.1 c_1
    refine lv_iconst (v := (-1)) hx hb dX0_place_13 (by decide) ?_
    refine lv_goto (tgt := 25) hx hb dX0_place_14 (by decide) ?_
    exact q_iret () hx hb hr hlocks hK dX0_place_25 hS hP hD hw
  · replace hw := hw.2 c_1
    refine lv_iload_n hx hb dX0_place_5 rfl (lv_at hl 1 rfl) ?_
    refine lv_aload_n hx hb dX0_place_6 rfl (lv_at hl 0 rfl) ?_
    refine q_callVi (As := []) (rest := [.int a1]) (wr := []) [0, 1, 2, 3] [] ⟨hx, hb, hml, hown, hts⟩ (c_S_segments l D g q kS vS bS llS lvS lhS mvS  _ hw _) (cwV 0 hts gX0_place_X0_segments rfl rfl rfl (by decide +kernel) ⟨Nat.le_of_ble_eq_true rfl, Nat.le_of_ble_eq_true rfl⟩) (va_recv hK hP (ci := 0) (q0 := 0) rfl rfl) hK hP hD hS hA rfl rfl rfl (by decide) (by decide) (by decide) rfl hl.1 rfl (Nat.le_of_ble_eq_true rfl) dX0_place_7 ⟨Nat.zero_le _, Nat.zero_le _⟩ (fun r_2 u H locs hw hP hD hS => ?_)
    try dsimp only at hw
    replace hP : va_P D vwCl (wS g q kS vS bS llS lvS lhS mvS) H := hP
    replace hD : va_D A (wS g q kS vS bS llS lvS lhS mvS) := hD
    refine lv_icmp_lt (tgt := 17) hx hb dX0_place_10 (by decide) (fun c_3 => ?_) (fun c_3 => ?_)
    · replace hw := hw.1 c_3
      refine lv_iload_n hx hb dX0_place_17 rfl (lv_at hl 1 rfl) ?_
      refine lv_aload_n hx hb dX0_place_18 rfl (lv_at hl 0 rfl) ?_
      refine va_get (D := D) (ci := 0) (v := .int lvS) (C := RX0) (T := TX0) (N := 7) hx hb hts (fun w h => List.mem_cons_of_mem _ (iX0 w h)) hown hK hP 0 rfl rfl 4 (by decide) hf_levels (fun _ h9 => h9) rfl dX0_place_19 ?_
      refine q_callSi (As := [.int a1, .int lvS]) (rest := []) (wr := (wS g q kS vS bS llS lvS lhS mvS)) [] [0, 1, 2, 3] ⟨hx, hb, hml, hown, hts⟩ (c_S_placeInTree l D 8 a1 lvS _ hw _) (va_cwS 2 hts gX0_place_X0_placeInTree rfl rfl rfl (by decide +kernel) ⟨Nat.le_of_ble_eq_true rfl, Nat.le_of_ble_eq_true rfl⟩) (hK.sub (tys' := []) [] rfl) hP hD hS hA rfl rfl rfl (by decide) (by decide) (by decide) rfl hl.1 rfl (Nat.le_of_ble_eq_true rfl) dX0_place_22 ⟨Nat.zero_le _, Nat.zero_le _⟩ (fun r_4 u H locs hw hP hD hS => ?_)
      try dsimp only at hw
      replace hP : va_P D vwCl (wS g q kS vS bS llS lvS lhS mvS) H := hP
      replace hD : va_D A (wS g q kS vS bS llS lvS lhS mvS) := hD
      exact q_iret () hx hb hr hlocks hK dX0_place_25 hS hP hD hw
    · replace hw := hw.2 c_3
      refine lv_iconst (v := (-1)) hx hb dX0_place_13 (by decide) ?_
      refine lv_goto (tgt := 25) hx hb dX0_place_14 (by decide) ?_
      exact q_iret () hx hb hr hlocks hK dX0_place_25 hS hP hD hw
set_option maxHeartbeats 4000000 in
set_option maxRecDepth 100000 in
theorem c_S_borne (l : Launch) (D : va_G) (g : Nat → Nat) (q : Nat → ClassId) (kS : Nat → Int64) (vS : Nat → Int64) (bS : Nat → Int32) (llS : Int32) (lvS : Int32) (lhS : Int32) (mvS : Int64) (a1 : Int32) (post : Int64 → Prop) (hw : wp_S_borne kS lvS a1 post) (sz : Nat) : Met l yX0_borne wsX0_borne ({ frames := 11, cells := 0, slots := 0, locals := 566 }) (qP D vwCl (tS q) (wS g q kS vS bS llS lvS lhS mvS) sz [.ref (g 0), .int a1]) (va_Ql (fun r (_ : Unit) => post r) (qB D vwCl (tS q) (fun _ : Unit => (wS g q kS vS bS llS lvS lhS mvS)) (va_A (wS g q kS vS bS llS lvS lhS mvS) sz)) (va_A (wS g q kS vS bS llS lvS lhS mvS) sz)) 0 0 (va_A (wS g q kS vS bS llS lvS lhS mvS) sz) := by
  refine q_enter (cc := cX0_borne) (maxL := 3) (ret := (some .long)) (fun A => va_Ql (fun r (_ : Unit) => post r) (qB D vwCl (tS q) (fun _ : Unit => (wS g q kS vS bS llS lvS lhS mvS)) A) A) (by decide +kernel) rfl (Nat.le_of_ble_eq_true rfl) ?_
  intro p e s m below meth c A ls hx hb hr hml hown hts hlocks hname hP hK hD hA hl
  replace hown : s.vm.findClass RX0 = some m.cls := hown
  replace hl : lv_has ls 3 [(0, .ref (g 0)), (1, .int a1)] := hl
  have hS : va_S A s.heap s.heap [] := va_S.rf
  have hf_levels := hts _ (List.mem_cons_of_mem _ tfl_X0_32)
  have L2 : ∀ (x1 : Int32) (n : Nat) (x2 : Int32), wp_S_borne_L2 kS lvS x1 post n x2 → ∀ (H : Heap) (locs : List Loc) (ls : Array Slot), va_P D vwCl (wS g q kS vS bS llS lvS lhS mvS) H → va_D A (wS g q kS vS bS llS lvS lhS mvS) → va_S A s.heap H locs → lv_has ls 3 [(0, .ref (g 0)), (1, .int x1), (2, .int x2)] → W p l e { frames := 11, cells := 0, slots := 0, locals := 566 } s m ([.ref (g 0), .int a1] : List Value).toArray below meth c H locs 0 0 (MQ below (va_Ql (fun r (_ : Unit) => post r) (qB D vwCl (tS q) (fun _ : Unit => (wS g q kS vS bS llS lvS lhS mvS)) A) A) ([.ref (g 0), .int a1] : List Value).toArray s 0 0 A) (F0 m 2 ls []) := by
    intro x1 n
    induction n with
    | zero => intro x2 hw; exact False.elim (show False from hw)
    | succ n ih =>
      intro x2 hw H locs ls hP hD hS hl
      rw [wp_S_borne_L2] at hw
      refine lv_iload_n hx hb dX0_borne_2 rfl (lv_at hl 2 rfl) ?_
      refine lv_aload_n hx hb dX0_borne_3 rfl (lv_at hl 0 rfl) ?_
      refine q_callVi (As := []) (rest := [.int x2]) (wr := []) [0, 1, 2, 3] [] ⟨hx, hb, hml, hown, hts⟩ (c_S_segments l D g q kS vS bS llS lvS lhS mvS  _ hw _) (cwV 0 hts gX0_borne_X0_segments rfl rfl rfl (by decide +kernel) ⟨Nat.le_of_ble_eq_true rfl, Nat.le_of_ble_eq_true rfl⟩) (va_recv hK hP (ci := 0) (q0 := 0) rfl rfl) hK hP hD hS hA rfl rfl rfl (by decide) (by decide) (by decide) rfl hl.1 rfl (Nat.le_of_ble_eq_true rfl) dX0_borne_4 ⟨Nat.zero_le _, Nat.zero_le _⟩ (fun r_1 u H locs hw hP hD hS => ?_)
      try dsimp only at hw
      replace hP : va_P D vwCl (wS g q kS vS bS llS lvS lhS mvS) H := hP
      replace hD : va_D A (wS g q kS vS bS llS lvS lhS mvS) := hD
      refine lv_icmp_ge (tgt := 34) hx hb dX0_borne_7 (by decide) (fun c_2 => ?_) (fun c_2 => ?_)
      · replace hw := hw.1 c_2
        refine lv_ldc2 (v := NOK) hx hb hown (hts _ (List.mem_cons_of_mem _ tcn_X0_13)) dX0_borne_34 ?_
        exact q_lret () hx hb hr hlocks hK dX0_borne_37 hS hP hD hw
      · replace hw := hw.2 c_2
        refine lv_iload_n hx hb dX0_borne_10 rfl (lv_at hl 2 rfl) ?_
        refine lv_aload_n hx hb dX0_borne_11 rfl (lv_at hl 0 rfl) ?_
        refine va_get (D := D) (ci := 0) (v := .int lvS) (C := RX0) (T := TX0) (N := 7) hx hb hts (fun w h => List.mem_cons_of_mem _ (iX0 w h)) hown hK hP 0 rfl rfl 4 (by decide) hf_levels (fun _ h9 => h9) rfl dX0_borne_12 ?_
        refine q_callSi (As := [.int x2, .int lvS]) (rest := []) (wr := (wS g q kS vS bS llS lvS lhS mvS)) [] [0, 1, 2, 3] ⟨hx, hb, hml, hown, hts⟩ (c_S_placeInTree l D 8 x2 lvS _ hw _) (va_cwS 2 hts gX0_borne_X0_placeInTree rfl rfl rfl (by decide +kernel) ⟨Nat.le_of_ble_eq_true rfl, Nat.le_of_ble_eq_true rfl⟩) (hK.sub (tys' := []) [] rfl) hP hD hS hA rfl rfl rfl (by decide) (by decide) (by decide) rfl hl.1 rfl (Nat.le_of_ble_eq_true rfl) dX0_borne_15 ⟨Nat.zero_le _, Nat.zero_le _⟩ (fun r_3 u H locs hw hP hD hS => ?_)
        try dsimp only at hw
        replace hP : va_P D vwCl (wS g q kS vS bS llS lvS lhS mvS) H := hP
        replace hD : va_D A (wS g q kS vS bS llS lvS lhS mvS) := hD
        refine lv_iload_n hx hb dX0_borne_18 rfl (lv_at hl 1 rfl) ?_
        refine lv_icmp_ne (tgt := 28) hx hb dX0_borne_19 (by decide) (fun c_4 => ?_) (fun c_4 => ?_)
        · replace hw := hw.2 c_4
          refine lv_iinc (v := (x2 + 1)) (lv' := [(2, .int (x2 + 1)), (0, .ref (g 0)), (1, .int x1)]) hx hb dX0_borne_28 hl (k := 2) rfl rfl (by decide) rfl (fun ls hl => ?_)
          refine lv_goto (tgt := 2) hx hb dX0_borne_31 (by decide) ?_
          exact ih (x2 + 1) hw _ _ ls hP hD hS (lv_sub hl [1, 2, 0] rfl)
        · replace hw := hw.1 c_4
          refine lv_aload_n hx hb dX0_borne_22 rfl (lv_at hl 0 rfl) ?_
          refine lv_iload_n hx hb dX0_borne_23 rfl (lv_at hl 2 rfl) ?_
          refine q_callVl (As := [.int x2]) (rest := []) (wr := []) [0, 1, 2, 3] [] ⟨hx, hb, hml, hown, hts⟩ (c_S_borneBy l D g q kS vS bS llS lvS lhS mvS x2 _ hw _) (cwV 1 hts gX0_borne_X0_borneBy rfl rfl rfl (by decide +kernel) ⟨Nat.le_of_ble_eq_true rfl, Nat.le_of_ble_eq_true rfl⟩) (va_recv hK hP (ci := 0) (q0 := 0) rfl rfl) hK hP hD hS hA rfl rfl rfl (by decide) (by decide) (by decide) rfl hl.1 rfl (Nat.le_of_ble_eq_true rfl) dX0_borne_24 ⟨Nat.zero_le _, Nat.zero_le _⟩ (fun r_5 u H locs hw hP hD hS => ?_)
          try dsimp only at hw
          replace hP : va_P D vwCl (wS g q kS vS bS llS lvS lhS mvS) H := hP
          replace hD : va_D A (wS g q kS vS bS llS lvS lhS mvS) := hD
          exact q_lret () hx hb hr hlocks hK dX0_borne_27 hS hP hD hw
  unfold wp_S_borne at hw
  refine lv_iconst (v := 1) hx hb dX0_borne_0 (by decide) ?_
  refine lv_istore_n (lv' := [(2, .int 1), (0, .ref (g 0)), (1, .int a1)]) hx hb dX0_borne_1 rfl hl (by decide) rfl (fun ls hl => ?_)
  obtain ⟨n0, hw⟩ := hw
  exact L2 a1 n0 1 hw _ _ ls hP hD hS (lv_sub hl [1, 2, 0] rfl)
set_option maxHeartbeats 4000000 in
set_option maxRecDepth 100000 in
theorem c_S_noteBlock (l : Launch) (D : va_G) (g : Nat → Nat) (q : Nat → ClassId) (kS : Nat → Int64) (vS : Nat → Int64) (bS : Nat → Int32) (llS : Int32) (lvS : Int32) (lhS : Int32) (mvS : Int64) (a1 : Int32) (a2 : Int32) (post : Int32 → (Nat → Int32) → Prop) (hw : wp_S_noteBlock bS a1 a2 post) (sz : Nat) : Met l yX0_noteBlock wsX0_noteBlock ({ frames := 0, cells := 0, slots := 0, locals := 0 }) (qP D vwCl (tS q) (wS g q kS vS bS llS lvS lhS mvS) sz [.ref (g 0), .int a1, .int a2]) (va_Qi (fun r (u : (Nat → Int32)) => post r u) (qB D vwCl (tS q) (fun u : (Nat → Int32) => (wS g q kS vS u llS lvS lhS mvS)) (va_A (wS g q kS vS bS llS lvS lhS mvS) sz)) (va_A (wS g q kS vS bS llS lvS lhS mvS) sz)) 0 0 (va_A (wS g q kS vS bS llS lvS lhS mvS) sz) := by
  refine q_enter (cc := cX0_noteBlock) (maxL := 4) (ret := (some .int)) (fun A => va_Qi (fun r (u : (Nat → Int32)) => post r u) (qB D vwCl (tS q) (fun u : (Nat → Int32) => (wS g q kS vS u llS lvS lhS mvS)) A) A) (by decide +kernel) rfl (Nat.le_of_ble_eq_true rfl) ?_
  intro p e s m below meth c A ls hx hb hr hml hown hts hlocks hname hP hK hD hA hl
  replace hown : s.vm.findClass RX0 = some m.cls := hown
  replace hl : lv_has ls 4 [(0, .ref (g 0)), (1, .int a1), (2, .int a2)] := hl
  have hS : va_S A s.heap s.heap [] := va_S.rf
  have hf_blocks := hts _ (List.mem_cons_of_mem _ tfl_X0_24)
  have L2 : ∀ (x1 : Int32) (x2 : Int32) (n : Nat) (x3 : Int32) (bS : Nat → Int32), wp_S_noteBlock_L2 x1 x2 post n x3 bS → ∀ (H : Heap) (locs : List Loc) (ls : Array Slot), va_P D vwCl (wS g q kS vS bS llS lvS lhS mvS) H → va_D A (wS g q kS vS bS llS lvS lhS mvS) → va_S A s.heap H locs → lv_has ls 4 [(0, .ref (g 0)), (1, .int x1), (2, .int x2), (3, .int x3)] → W p l e { frames := 0, cells := 0, slots := 0, locals := 0 } s m ([.ref (g 0), .int a1, .int a2] : List Value).toArray below meth c H locs 0 0 (MQ below (va_Qi (fun r (u : (Nat → Int32)) => post r u) (qB D vwCl (tS q) (fun u : (Nat → Int32) => (wS g q kS vS u llS lvS lhS mvS)) A) A) ([.ref (g 0), .int a1, .int a2] : List Value).toArray s 0 0 A) (F0 m 2 ls []) := by
    intro x1 x2 n
    induction n with
    | zero => intro x3 bS hw; exact False.elim (show False from hw)
    | succ n ih =>
      intro x3 bS hw H locs ls hP hD hS hl
      rw [wp_S_noteBlock_L2] at hw
      refine lv_iload_n hx hb dX0_noteBlock_2 rfl (lv_at hl 3 rfl) ?_
      refine lv_iload_n hx hb dX0_noteBlock_3 rfl (lv_at hl 2 rfl) ?_
      refine lv_icmp_ge (tgt := 25) hx hb dX0_noteBlock_4 (by decide) (fun c_1 => ?_) (fun c_1 => ?_)
      · replace hw := hw.1 c_1
        refine lv_aload_n hx hb dX0_noteBlock_25 rfl (lv_at hl 0 rfl) ?_
        refine va_get (D := D) (ci := 0) (v := .ref (g 3)) (C := RX0) (T := TX0) (N := 7) hx hb hts (fun w h => List.mem_cons_of_mem _ (iX0 w h)) hown hK hP 0 rfl rfl 2 (by decide) hf_blocks (fun _ h9 => h9) rfl dX0_noteBlock_26 ?_
        refine lv_iload_n hx hb dX0_noteBlock_29 rfl (lv_at hl 2 rfl) ?_
        refine lv_iload_n hx hb dX0_noteBlock_30 rfl (lv_at hl 1 rfl) ?_
        obtain ⟨hi_2, hw⟩ := hw
        refine va_iast hx hb hK hP hD hS 3 2 rfl rfl hi_2 dX0_noteBlock_31 (fun H locs hP hD hS => ?_)
        replace hP : va_P D vwCl (wS g q kS vS (upd bS x2.toNatClampNeg x1) llS lvS lhS mvS) H := hP
        replace hD : va_D A (wS g q kS vS (upd bS x2.toNatClampNeg x1) llS lvS lhS mvS) := hD
        refine lv_iload_n hx hb dX0_noteBlock_32 rfl (lv_at hl 2 rfl) ?_
        refine lv_iconst (v := 1) hx hb dX0_noteBlock_33 (by decide) ?_
        refine lv_iadd hx hb dX0_noteBlock_34 ?_
        exact q_iret (upd bS x2.toNatClampNeg x1) hx hb hr hlocks hK dX0_noteBlock_35 hS hP hD hw
      · replace hw := hw.2 c_1
        refine lv_aload_n hx hb dX0_noteBlock_7 rfl (lv_at hl 0 rfl) ?_
        refine va_get (D := D) (ci := 0) (v := .ref (g 3)) (C := RX0) (T := TX0) (N := 7) hx hb hts (fun w h => List.mem_cons_of_mem _ (iX0 w h)) hown hK hP 0 rfl rfl 2 (by decide) hf_blocks (fun _ h9 => h9) rfl dX0_noteBlock_8 ?_
        refine lv_iload_n hx hb dX0_noteBlock_11 rfl (lv_at hl 3 rfl) ?_
        obtain ⟨hi_3, hw⟩ := hw
        refine va_iald hx hb hK hP 3 2 rfl rfl hi_3 dX0_noteBlock_12 ?_
        refine lv_iload_n hx hb dX0_noteBlock_13 rfl (lv_at hl 1 rfl) ?_
        refine lv_icmp_ne (tgt := 19) hx hb dX0_noteBlock_14 (by decide) (fun c_4 => ?_) (fun c_4 => ?_)
        · replace hw := hw.2 c_4
          refine lv_iinc (v := (x3 + 1)) (lv' := [(3, .int (x3 + 1)), (0, .ref (g 0)), (1, .int x1), (2, .int x2)]) hx hb dX0_noteBlock_19 hl (k := 3) rfl rfl (by decide) rfl (fun ls hl => ?_)
          refine lv_goto (tgt := 2) hx hb dX0_noteBlock_22 (by decide) ?_
          exact ih (x3 + 1) bS hw _ _ ls hP hD hS (lv_sub hl [1, 2, 3, 0] rfl)
        · replace hw := hw.1 c_4
          refine lv_iload_n hx hb dX0_noteBlock_17 rfl (lv_at hl 2 rfl) ?_
          exact q_iret bS hx hb hr hlocks hK dX0_noteBlock_18 hS hP hD hw
  unfold wp_S_noteBlock at hw
  refine lv_iconst (v := 0) hx hb dX0_noteBlock_0 (by decide) ?_
  refine lv_istore_n (lv' := [(3, .int 0), (0, .ref (g 0)), (1, .int a1), (2, .int a2)]) hx hb dX0_noteBlock_1 rfl hl (by decide) rfl (fun ls hl => ?_)
  obtain ⟨n0, hw⟩ := hw
  exact L2 a1 a2 n0 0 bS hw _ _ ls hP hD hS (lv_sub hl [1, 2, 3, 0] rfl)
set_option maxHeartbeats 4000000 in
set_option maxRecDepth 100000 in
theorem c_S_touched (l : Launch) (D : va_G) (g : Nat → Nat) (q : Nat → ClassId) (kS : Nat → Int64) (vS : Nat → Int64) (bS : Nat → Int32) (llS : Int32) (lvS : Int32) (lhS : Int32) (mvS : Int64) (a1 : Int64) (a3 : Int32) (post : Int32 → (Nat → Int32) → Prop) (hw : wp_S_touched kS bS lvS a1 a3 post) (sz : Nat) : Met l yX0_touched wsX0_touched ({ frames := 11, cells := 0, slots := 0, locals := 566 }) (qP D vwCl (tS q) (wS g q kS vS bS llS lvS lhS mvS) sz [.ref (g 0), .long a1, .int a3]) (va_Qi (fun r (u : (Nat → Int32)) => post r u) (qB D vwCl (tS q) (fun u : (Nat → Int32) => (wS g q kS vS u llS lvS lhS mvS)) (va_A (wS g q kS vS bS llS lvS lhS mvS) sz)) (va_A (wS g q kS vS bS llS lvS lhS mvS) sz)) 0 0 (va_A (wS g q kS vS bS llS lvS lhS mvS) sz) := by
  refine q_enter (cc := cX0_touched) (maxL := 8) (ret := (some .int)) (fun A => va_Qi (fun r (u : (Nat → Int32)) => post r u) (qB D vwCl (tS q) (fun u : (Nat → Int32) => (wS g q kS vS u llS lvS lhS mvS)) A) A) (by decide +kernel) rfl (Nat.le_of_ble_eq_true rfl) ?_
  intro p e s m below meth c A ls hx hb hr hml hown hts hlocks hname hP hK hD hA hl
  replace hown : s.vm.findClass RX0 = some m.cls := hown
  replace hl : lv_has ls 8 [(0, .ref (g 0)), (1, .long a1), (3, .int a3)] := hl
  have hS : va_S A s.heap s.heap [] := va_S.rf
  have hf_levels := hts _ (List.mem_cons_of_mem _ tfl_X0_32)
  have L84 : ∀ (x3 : Int32) (x6 : Int32) (n : Nat) (x5 : Int32) (x7 : Int32) (bS : Nat → Int32), wp_S_touched_L84 kS lvS x3 x6 post n x5 x7 bS → ∀ (H : Heap) (locs : List Loc) (ls : Array Slot), va_P D vwCl (wS g q kS vS bS llS lvS lhS mvS) H → va_D A (wS g q kS vS bS llS lvS lhS mvS) → va_S A s.heap H locs → lv_has ls 8 [(0, .ref (g 0)), (3, .int x3), (5, .int x5), (6, .int x6), (7, .int x7)] → W p l e { frames := 11, cells := 0, slots := 0, locals := 566 } s m ([.ref (g 0), .long a1, .int a3] : List Value).toArray below meth c H locs 0 0 (MQ below (va_Qi (fun r (u : (Nat → Int32)) => post r u) (qB D vwCl (tS q) (fun u : (Nat → Int32) => (wS g q kS vS u llS lvS lhS mvS)) A) A) ([.ref (g 0), .long a1, .int a3] : List Value).toArray s 0 0 A) (F0 m 84 ls []) := by
    intro x3 x6 n
    induction n with
    | zero => intro x5 x7 bS hw; exact False.elim (show False from hw)
    | succ n ih =>
      intro x5 x7 bS hw H locs ls hP hD hS hl
      rw [wp_S_touched_L84] at hw
      refine lv_iload hx hb dX0_touched_84 (lv_at hl 4 rfl) ?_
      refine lv_bipush (v := 8) hx hb dX0_touched_86 (by decide) ?_
      refine lv_icmp_ge (tgt := 112) hx hb dX0_touched_88 (by decide) (fun c_11 => ?_) (fun c_11 => ?_)
      · replace hw := hw.1 c_11
        refine lv_iload hx hb dX0_touched_112 (lv_at hl 2 rfl) ?_
        exact q_iret bS hx hb hr hlocks hK dX0_touched_114 hS hP hD hw
      · replace hw := hw.2 c_11
        refine lv_aload_n hx hb dX0_touched_91 rfl (lv_at hl 0 rfl) ?_
        refine lv_iload hx hb dX0_touched_92 (lv_at hl 3 rfl) ?_
        refine lv_iload hx hb dX0_touched_94 (lv_at hl 4 rfl) ?_
        refine lv_iadd hx hb dX0_touched_96 ?_
        refine lv_iload_n hx hb dX0_touched_97 rfl (lv_at hl 1 rfl) ?_
        obtain ⟨hz_12, hw⟩ := hw
        refine lv_idiv hx hb dX0_touched_98 hz_12 ?_
        refine lv_iload hx hb dX0_touched_99 (lv_at hl 2 rfl) ?_
        refine q_callVi (As := [.int ((x6 + x7) / x3), .int x5]) (rest := []) (wr := []) [0, 1, 2, 3] [] ⟨hx, hb, hml, hown, hts⟩ (c_S_noteBlock l D g q kS vS bS llS lvS lhS mvS ((x6 + x7) / x3) x5 _ hw _) (cwV 2 hts gX0_touched_X0_noteBlock rfl rfl rfl (by decide +kernel) ⟨Nat.le_of_ble_eq_true rfl, Nat.le_of_ble_eq_true rfl⟩) (va_recv hK hP (ci := 0) (q0 := 0) rfl rfl) hK hP hD hS hA rfl rfl rfl (by decide) (by decide) (by decide) rfl hl.1 rfl (Nat.le_of_ble_eq_true rfl) dX0_touched_101 ⟨Nat.zero_le _, Nat.zero_le _⟩ (fun r_13 bS_14 H locs hw hP hD hS => ?_)
        try dsimp only at hw
        replace hP : va_P D vwCl (wS g q kS vS bS_14 llS lvS lhS mvS) H := hP
        replace hD : va_D A (wS g q kS vS bS_14 llS lvS lhS mvS) := hD
        refine lv_istore (lv' := [(5, .int r_13), (0, .ref (g 0)), (3, .int x3), (6, .int x6), (7, .int x7)]) hx hb dX0_touched_104 hl (by decide) rfl (fun ls hl => ?_)
        refine lv_iinc (v := (x7 + 1)) (lv' := [(7, .int (x7 + 1)), (5, .int r_13), (0, .ref (g 0)), (3, .int x3), (6, .int x6)]) hx hb dX0_touched_106 hl (k := 4) rfl rfl (by decide) rfl (fun ls hl => ?_)
        refine lv_goto (tgt := 84) hx hb dX0_touched_109 (by decide) ?_
        exact ih r_13 (x7 + 1) bS_14 hw _ _ ls hP hD hS (lv_sub hl [2, 3, 1, 4, 0] rfl)
  have L35 : ∀ (x3 : Int32) (x4 : Int32) (n : Nat) (x5 : Int32) (x6 : Int32) (bS : Nat → Int32), wp_S_touched_L35 kS lvS x3 x4 post n x5 x6 bS → ∀ (H : Heap) (locs : List Loc) (ls : Array Slot), va_P D vwCl (wS g q kS vS bS llS lvS lhS mvS) H → va_D A (wS g q kS vS bS llS lvS lhS mvS) → va_S A s.heap H locs → lv_has ls 8 [(0, .ref (g 0)), (3, .int x3), (4, .int x4), (5, .int x5), (6, .int x6)] → W p l e { frames := 11, cells := 0, slots := 0, locals := 566 } s m ([.ref (g 0), .long a1, .int a3] : List Value).toArray below meth c H locs 0 0 (MQ below (va_Qi (fun r (u : (Nat → Int32)) => post r u) (qB D vwCl (tS q) (fun u : (Nat → Int32) => (wS g q kS vS u llS lvS lhS mvS)) A) A) ([.ref (g 0), .long a1, .int a3] : List Value).toArray s 0 0 A) (F0 m 35 ls []) := by
    intro x3 x4 n
    induction n with
    | zero => intro x5 x6 bS hw; exact False.elim (show False from hw)
    | succ n ih =>
      intro x5 x6 bS hw H locs ls hP hD hS hl
      rw [wp_S_touched_L35] at hw
      refine lv_iload hx hb dX0_touched_35 (lv_at hl 4 rfl) ?_
      refine lv_iconst (v := 1) hx hb dX0_touched_37 (by decide) ?_
      refine lv_icmp_lt (tgt := 69) hx hb dX0_touched_38 (by decide) (fun c_5 => ?_) (fun c_5 => ?_)
      · replace hw := hw.1 c_5
        refine lv_aload_n hx hb dX0_touched_69 rfl (lv_at hl 0 rfl) ?_
        refine q_callVi (As := []) (rest := []) (wr := []) [0, 1, 2, 3] [] ⟨hx, hb, hml, hown, hts⟩ (c_S_segments l D g q kS vS bS llS lvS lhS mvS  _ hw _) (cwV 0 hts gX0_touched_X0_segments rfl rfl rfl (by decide +kernel) ⟨Nat.le_of_ble_eq_true rfl, Nat.le_of_ble_eq_true rfl⟩) (va_recv hK hP (ci := 0) (q0 := 0) rfl rfl) hK hP hD hS hA rfl rfl rfl (by decide) (by decide) (by decide) rfl hl.1 rfl (Nat.le_of_ble_eq_true rfl) dX0_touched_70 ⟨Nat.zero_le _, Nat.zero_le _⟩ (fun r_6 u H locs hw hP hD hS => ?_)
        try dsimp only at hw
        replace hP : va_P D vwCl (wS g q kS vS bS llS lvS lhS mvS) H := hP
        replace hD : va_D A (wS g q kS vS bS llS lvS lhS mvS) := hD
        refine lv_iload hx hb dX0_touched_73 (lv_at hl 2 rfl) ?_
        refine lv_bipush (v := 8) hx hb dX0_touched_75 (by decide) ?_
        refine lv_imul hx hb dX0_touched_77 ?_
        refine lv_iadd hx hb dX0_touched_78 ?_
        refine lv_istore (lv' := [(6, .int (r_6 + (x4 * 8))), (0, .ref (g 0)), (3, .int x3), (4, .int x4), (5, .int x5)]) hx hb dX0_touched_79 hl (by decide) rfl (fun ls hl => ?_)
        refine lv_iconst (v := 0) hx hb dX0_touched_81 (by decide) ?_
        refine lv_istore (lv' := [(7, .int 0), (6, .int (r_6 + (x4 * 8))), (0, .ref (g 0)), (3, .int x3), (4, .int x4), (5, .int x5)]) hx hb dX0_touched_82 hl (by decide) rfl (fun ls hl => ?_)
        obtain ⟨n0, hw⟩ := hw
        exact L84 x3 (r_6 + (x4 * 8)) n0 x5 0 bS hw _ _ ls hP hD hS (lv_sub hl [2, 3, 5, 1, 0] rfl)
      · replace hw := hw.2 c_5
        refine lv_aload_n hx hb dX0_touched_41 rfl (lv_at hl 0 rfl) ?_
        refine lv_iload hx hb dX0_touched_42 (lv_at hl 4 rfl) ?_
        refine lv_aload_n hx hb dX0_touched_44 rfl (lv_at hl 0 rfl) ?_
        refine va_get (D := D) (ci := 0) (v := .int lvS) (C := RX0) (T := TX0) (N := 7) hx hb hts (fun w h => List.mem_cons_of_mem _ (iX0 w h)) hown hK hP 0 rfl rfl 4 (by decide) hf_levels (fun _ h9 => h9) rfl dX0_touched_45 ?_
        refine q_callSi (As := [.int x6, .int lvS]) (rest := [.ref (g 0)]) (wr := (wS g q kS vS bS llS lvS lhS mvS)) [] [0, 1, 2, 3] ⟨hx, hb, hml, hown, hts⟩ (c_S_placeInTree l D 8 x6 lvS _ hw _) (va_cwS 2 hts gX0_touched_X0_placeInTree rfl rfl rfl (by decide +kernel) ⟨Nat.le_of_ble_eq_true rfl, Nat.le_of_ble_eq_true rfl⟩) (hK.sub (tys' := []) [] rfl) hP hD hS hA rfl rfl rfl (by decide) (by decide) (by decide) rfl hl.1 rfl (Nat.le_of_ble_eq_true rfl) dX0_touched_48 ⟨Nat.zero_le _, Nat.zero_le _⟩ (fun r_7 u H locs hw hP hD hS => ?_)
        try dsimp only at hw
        replace hP : va_P D vwCl (wS g q kS vS bS llS lvS lhS mvS) H := hP
        replace hD : va_D A (wS g q kS vS bS llS lvS lhS mvS) := hD
        refine lv_iload_n hx hb dX0_touched_51 rfl (lv_at hl 1 rfl) ?_
        obtain ⟨hz_8, hw⟩ := hw
        refine lv_idiv hx hb dX0_touched_52 hz_8 ?_
        refine lv_iload hx hb dX0_touched_53 (lv_at hl 3 rfl) ?_
        refine q_callVi (As := [.int (r_7 / x3), .int x5]) (rest := []) (wr := []) [0, 1, 2, 3] [] ⟨hx, hb, hml, hown, hts⟩ (c_S_noteBlock l D g q kS vS bS llS lvS lhS mvS (r_7 / x3) x5 _ hw _) (cwV 2 hts gX0_touched_X0_noteBlock rfl rfl rfl (by decide +kernel) ⟨Nat.le_of_ble_eq_true rfl, Nat.le_of_ble_eq_true rfl⟩) (va_recv hK hP (ci := 0) (q0 := 0) rfl rfl) hK hP hD hS hA rfl rfl rfl (by decide) (by decide) (by decide) rfl hl.1 rfl (Nat.le_of_ble_eq_true rfl) dX0_touched_55 ⟨Nat.zero_le _, Nat.zero_le _⟩ (fun r_9 bS_10 H locs hw hP hD hS => ?_)
        try dsimp only at hw
        replace hP : va_P D vwCl (wS g q kS vS bS_10 llS lvS lhS mvS) H := hP
        replace hD : va_D A (wS g q kS vS bS_10 llS lvS lhS mvS) := hD
        refine lv_istore (lv' := [(5, .int r_9), (0, .ref (g 0)), (3, .int x3), (4, .int x4), (6, .int x6)]) hx hb dX0_touched_58 hl (by decide) rfl (fun ls hl => ?_)
        refine lv_iload hx hb dX0_touched_60 (lv_at hl 4 rfl) ?_
        refine lv_iconst (v := 2) hx hb dX0_touched_62 (by decide) ?_
        refine lv_idiv hx hb dX0_touched_63 (by decide) ?_
        refine lv_istore (lv' := [(6, .int (x6 / 2)), (5, .int r_9), (0, .ref (g 0)), (3, .int x3), (4, .int x4)]) hx hb dX0_touched_64 hl (by decide) rfl (fun ls hl => ?_)
        refine lv_goto (tgt := 35) hx hb dX0_touched_66 (by decide) ?_
        exact ih r_9 (x6 / 2) bS_10 hw _ _ ls hP hD hS (lv_sub hl [2, 3, 4, 1, 0] rfl)
  unfold wp_S_touched at hw
  refine lv_iload_n hx hb dX0_touched_0 rfl (lv_at hl 2 rfl) ?_
  refine lv_iconst (v := 1) hx hb dX0_touched_1 (by decide) ?_
  refine lv_icmp_lt (tgt := 12) hx hb dX0_touched_2 (by decide) (fun c_1 => ?_) (fun c_1 => ?_)
  · replace hw := hw.1 c_1
    refine lv_iconst (v := (-1)) hx hb dX0_touched_12 (by decide) ?_
    exact q_iret bS hx hb hr hlocks hK dX0_touched_13 hS hP hD hw
  · replace hw := hw.2 c_1
    refine lv_iload_n hx hb dX0_touched_5 rfl (lv_at hl 2 rfl) ?_
    refine lv_sipush (v := 1024) hx hb dX0_touched_6 (by decide) ?_
    refine lv_icmp_le (tgt := 14) hx hb dX0_touched_9 (by decide) (fun c_2 => ?_) (fun c_2 => ?_)
    · replace hw := hw.1 c_2
      refine lv_aload_n hx hb dX0_touched_14 rfl (lv_at hl 0 rfl) ?_
      refine lv_lload_n hx hb dX0_touched_15 rfl (lv_at hl 1 rfl) ?_
      refine q_callVi (As := [.long a1]) (rest := []) (wr := []) [0, 1, 2, 3] [] ⟨hx, hb, hml, hown, hts⟩ (c_S_seek l D g q kS vS bS llS lvS lhS mvS a1 _ hw _) (cwV 1 hts gX0_touched_X0_seek rfl rfl rfl (by decide +kernel) ⟨Nat.le_of_ble_eq_true rfl, Nat.le_of_ble_eq_true rfl⟩) (va_recv hK hP (ci := 0) (q0 := 0) rfl rfl) hK hP hD hS hA rfl rfl rfl (by decide) (by decide) (by decide) rfl hl.1 rfl (Nat.le_of_ble_eq_true rfl) dX0_touched_16 ⟨Nat.zero_le _, Nat.zero_le _⟩ (fun r_3 u H locs hw hP hD hS => ?_)
      try dsimp only at hw
      replace hP : va_P D vwCl (wS g q kS vS bS llS lvS lhS mvS) H := hP
      replace hD : va_D A (wS g q kS vS bS llS lvS lhS mvS) := hD
      refine lv_istore (lv' := [(4, .int r_3), (0, .ref (g 0)), (1, .long a1), (3, .int a3)]) hx hb dX0_touched_19 hl (by decide) rfl (fun ls hl => ?_)
      refine lv_iconst (v := 0) hx hb dX0_touched_21 (by decide) ?_
      refine lv_istore (lv' := [(5, .int 0), (4, .int r_3), (0, .ref (g 0)), (1, .long a1), (3, .int a3)]) hx hb dX0_touched_22 hl (by decide) rfl (fun ls hl => ?_)
      refine lv_aload_n hx hb dX0_touched_24 rfl (lv_at hl 2 rfl) ?_
      refine q_callVi (As := []) (rest := []) (wr := []) [0, 1, 2, 3] [] ⟨hx, hb, hml, hown, hts⟩ (c_S_segments l D g q kS vS bS llS lvS lhS mvS  _ hw _) (cwV 0 hts gX0_touched_X0_segments rfl rfl rfl (by decide +kernel) ⟨Nat.le_of_ble_eq_true rfl, Nat.le_of_ble_eq_true rfl⟩) (va_recv hK hP (ci := 0) (q0 := 0) rfl rfl) hK hP hD hS hA rfl rfl rfl (by decide) (by decide) (by decide) rfl hl.1 rfl (Nat.le_of_ble_eq_true rfl) dX0_touched_25 ⟨Nat.zero_le _, Nat.zero_le _⟩ (fun r_4 u H locs hw hP hD hS => ?_)
      try dsimp only at hw
      replace hP : va_P D vwCl (wS g q kS vS bS llS lvS lhS mvS) H := hP
      replace hD : va_D A (wS g q kS vS bS llS lvS lhS mvS) := hD
      refine lv_iload hx hb dX0_touched_28 (lv_at hl 1 rfl) ?_
      refine lv_iadd hx hb dX0_touched_30 ?_
      refine lv_iconst (v := 2) hx hb dX0_touched_31 (by decide) ?_
      refine lv_idiv hx hb dX0_touched_32 (by decide) ?_
      refine lv_istore (lv' := [(6, .int ((r_4 + r_3) / 2)), (5, .int 0), (4, .int r_3), (0, .ref (g 0)), (1, .long a1), (3, .int a3)]) hx hb dX0_touched_33 hl (by decide) rfl (fun ls hl => ?_)
      obtain ⟨n0, hw⟩ := hw
      exact L35 a3 r_3 n0 0 ((r_4 + r_3) / 2) bS hw _ _ ls hP hD hS (lv_sub hl [3, 5, 2, 1, 0] rfl)
    · replace hw := hw.2 c_2
      refine lv_iconst (v := (-1)) hx hb dX0_touched_12 (by decide) ?_
      exact q_iret bS hx hb hr hlocks hK dX0_touched_13 hS hP hD hw
set_option maxHeartbeats 4000000 in
set_option maxRecDepth 100000 in
theorem c_S_window (l : Launch) (D : va_G) (g : Nat → Nat) (q : Nat → ClassId) (kS : Nat → Int64) (vS : Nat → Int64) (bS : Nat → Int32) (llS : Int32) (lvS : Int32) (lhS : Int32) (mvS : Int64) (post : Int32 → Prop) (hw : wp_S_window lhS post) (sz : Nat) : Met l yX0_window wsX0_window ({ frames := 0, cells := 0, slots := 0, locals := 0 }) (qP D vwCl (tS q) (wS g q kS vS bS llS lvS lhS mvS) sz [.ref (g 0)]) (va_Qi (fun r (_ : Unit) => post r) (qB D vwCl (tS q) (fun _ : Unit => (wS g q kS vS bS llS lvS lhS mvS)) (va_A (wS g q kS vS bS llS lvS lhS mvS) sz)) (va_A (wS g q kS vS bS llS lvS lhS mvS) sz)) 0 0 (va_A (wS g q kS vS bS llS lvS lhS mvS) sz) := by
  refine q_enter (cc := cX0_window) (maxL := 1) (ret := (some .int)) (fun A => va_Qi (fun r (_ : Unit) => post r) (qB D vwCl (tS q) (fun _ : Unit => (wS g q kS vS bS llS lvS lhS mvS)) A) A) (by decide +kernel) rfl (Nat.le_of_ble_eq_true rfl) ?_
  intro p e s m below meth c A ls hx hb hr hml hown hts hlocks hname hP hK hD hA hl
  replace hown : s.vm.findClass RX0 = some m.cls := hown
  replace hl : lv_has ls 1 [(0, .ref (g 0))] := hl
  have hS : va_S A s.heap s.heap [] := va_S.rf
  have hf_latestHeight := hts _ (List.mem_cons_of_mem _ tfl_X0_35)
  unfold wp_S_window at hw
  refine lv_aload_n hx hb dX0_window_0 rfl (lv_at hl 0 rfl) ?_
  refine va_get (D := D) (ci := 0) (v := .int lhS) (C := RX0) (T := TX0) (N := 7) hx hb hts (fun w h => List.mem_cons_of_mem _ (iX0 w h)) hown hK hP 0 rfl rfl 5 (by decide) hf_latestHeight (fun _ h9 => h9) rfl dX0_window_1 ?_
  exact q_iret () hx hb hr hlocks hK dX0_window_4 hS hP hD hw
set_option maxHeartbeats 4000000 in
set_option maxRecDepth 100000 in
theorem c_S_moved (l : Launch) (D : va_G) (g : Nat → Nat) (q : Nat → ClassId) (kS : Nat → Int64) (vS : Nat → Int64) (bS : Nat → Int32) (llS : Int32) (lvS : Int32) (lhS : Int32) (mvS : Int64) (post : Int64 → Prop) (hw : wp_S_moved mvS post) (sz : Nat) : Met l yX0_moved wsX0_moved ({ frames := 0, cells := 0, slots := 0, locals := 0 }) (qP D vwCl (tS q) (wS g q kS vS bS llS lvS lhS mvS) sz [.ref (g 0)]) (va_Ql (fun r (_ : Unit) => post r) (qB D vwCl (tS q) (fun _ : Unit => (wS g q kS vS bS llS lvS lhS mvS)) (va_A (wS g q kS vS bS llS lvS lhS mvS) sz)) (va_A (wS g q kS vS bS llS lvS lhS mvS) sz)) 0 0 (va_A (wS g q kS vS bS llS lvS lhS mvS) sz) := by
  refine q_enter (cc := cX0_moved) (maxL := 1) (ret := (some .long)) (fun A => va_Ql (fun r (_ : Unit) => post r) (qB D vwCl (tS q) (fun _ : Unit => (wS g q kS vS bS llS lvS lhS mvS)) A) A) (by decide +kernel) rfl (Nat.le_of_ble_eq_true rfl) ?_
  intro p e s m below meth c A ls hx hb hr hml hown hts hlocks hname hP hK hD hA hl
  replace hown : s.vm.findClass RX0 = some m.cls := hown
  replace hl : lv_has ls 1 [(0, .ref (g 0))] := hl
  have hS : va_S A s.heap s.heap [] := va_S.rf
  have hf_movedKeys := hts _ (List.mem_cons_of_mem _ tfl_X0_38)
  unfold wp_S_moved at hw
  refine lv_aload_n hx hb dX0_moved_0 rfl (lv_at hl 0 rfl) ?_
  refine va_get (D := D) (ci := 0) (v := .long mvS) (C := RX0) (T := TX0) (N := 7) hx hb hts (fun w h => List.mem_cons_of_mem _ (iX0 w h)) hown hK hP 0 rfl rfl 6 (by decide) hf_movedKeys (fun _ h9 => h9) rfl dX0_moved_1 ?_
  exact q_lret () hx hb hr hlocks hK dX0_moved_4 hS hP hD hw
