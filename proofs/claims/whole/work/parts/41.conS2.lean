set_option maxHeartbeats 4000000 in
set_option maxRecDepth 100000 in
theorem c_S_firstCell (l : Launch) (D : va_G) (a0 : Int32) (a1 : Int32) (post : Int32 → Prop) (hw : wp_S_firstCell a0 a1 post) (sz : Nat) : Met l yX0_firstCell wsX0_firstCell ({ frames := 1, cells := 0, slots := 0, locals := 20 }) (qP D vwCl [] [] sz [.int a0, .int a1]) (va_Qi (fun r (_ : Unit) => post r) (qB D vwCl [] (fun _ : Unit => []) (va_A [] sz)) (va_A [] sz)) 0 0 (va_A [] sz) := by
  refine q_enter (cc := cX0_firstCell) (maxL := 2) (ret := (some .int)) (fun A => va_Qi (fun r (_ : Unit) => post r) (qB D vwCl [] (fun _ : Unit => []) A) A) (by decide +kernel) rfl (Nat.le_of_ble_eq_true rfl) ?_
  intro p e s m below meth c A ls hx hb hr hml hown hts hlocks hname hP hK hD hA hl
  replace hown : s.vm.findClass RX0 = some m.cls := hown
  replace hl : lv_has ls 2 [(0, .int a0), (1, .int a1)] := hl
  have hS : va_S A s.heap s.heap [] := va_S.rf
  unfold wp_S_firstCell at hw
  refine lv_iload_n hx hb dX0_firstCell_0 rfl (lv_at hl 0 rfl) ?_
  refine lv_iload_n hx hb dX0_firstCell_1 rfl (lv_at hl 1 rfl) ?_
  refine lv_ishr hx hb dX0_firstCell_2 ?_
  refine lv_iload_n hx hb dX0_firstCell_3 rfl (lv_at hl 1 rfl) ?_
  refine q_callSi (As := [.int a1]) (rest := [.int (a0 >>> (a1 &&& 31))]) (wr := []) [] [] ⟨hx, hb, hml, hown, hts⟩ (c_S_windowCells l D a1 _ hw _) (va_cwS 1 hts gX0_firstCell_X0_windowCells rfl rfl rfl (by decide +kernel) ⟨Nat.le_of_ble_eq_true rfl, Nat.le_of_ble_eq_true rfl⟩) hK hP hD hS hA rfl rfl rfl (by decide) (by decide) (by decide) rfl hl.1 rfl (Nat.le_of_ble_eq_true rfl) dX0_firstCell_4 ⟨Nat.zero_le _, Nat.zero_le _⟩ (fun r_1 u H locs hw hP hD hS => ?_)
  try dsimp only at hw
  replace hP : va_P D vwCl [] H := hP
  replace hD : va_D A [] := hD
  refine lv_imul hx hb dX0_firstCell_7 ?_
  exact q_iret () hx hb hr hlocks hK dX0_firstCell_8 hS hP hD hw
set_option maxHeartbeats 4000000 in
set_option maxRecDepth 100000 in
theorem c_S_keysAmong (l : Launch) (D : va_G) (g : Nat → Nat) (q : Nat → ClassId) (kS : Nat → Int64) (vS : Nat → Int64) (bS : Nat → Int32) (llS : Int32) (lvS : Int32) (lhS : Int32) (mvS : Int64) (a1 : Int32) (a2 : Int32) (post : Int32 → Prop) (hw : wp_S_keysAmong kS a1 a2 post) (sz : Nat) : Met l yX0_keysAmong wsX0_keysAmong ({ frames := 0, cells := 0, slots := 0, locals := 0 }) (qP D vwCl (tS q) (wS g q kS vS bS llS lvS lhS mvS) sz [.ref (g 0), .int a1, .int a2]) (va_Qi (fun r (_ : Unit) => post r) (qB D vwCl (tS q) (fun _ : Unit => (wS g q kS vS bS llS lvS lhS mvS)) (va_A (wS g q kS vS bS llS lvS lhS mvS) sz)) (va_A (wS g q kS vS bS llS lvS lhS mvS) sz)) 0 0 (va_A (wS g q kS vS bS llS lvS lhS mvS) sz) := by
  refine q_enter (cc := cX0_keysAmong) (maxL := 5) (ret := (some .int)) (fun A => va_Qi (fun r (_ : Unit) => post r) (qB D vwCl (tS q) (fun _ : Unit => (wS g q kS vS bS llS lvS lhS mvS)) A) A) (by decide +kernel) rfl (Nat.le_of_ble_eq_true rfl) ?_
  intro p e s m below meth c A ls hx hb hr hml hown hts hlocks hname hP hK hD hA hl
  replace hown : s.vm.findClass RX0 = some m.cls := hown
  replace hl : lv_has ls 5 [(0, .ref (g 0)), (1, .int a1), (2, .int a2)] := hl
  have hS : va_S A s.heap s.heap [] := va_S.rf
  have hf_keys := hts _ (List.mem_cons_of_mem _ tfl_X0_9)
  have L5 : ∀ (x1 : Int32) (x2 : Int32) (n : Nat) (x3 : Int32) (x4 : Int32), wp_S_keysAmong_L5 kS x1 x2 post n x3 x4 → ∀ (H : Heap) (locs : List Loc) (ls : Array Slot), va_P D vwCl (wS g q kS vS bS llS lvS lhS mvS) H → va_D A (wS g q kS vS bS llS lvS lhS mvS) → va_S A s.heap H locs → lv_has ls 5 [(0, .ref (g 0)), (1, .int x1), (2, .int x2), (3, .int x3), (4, .int x4)] → W p l e { frames := 0, cells := 0, slots := 0, locals := 0 } s m ([.ref (g 0), .int a1, .int a2] : List Value).toArray below meth c H locs 0 0 (MQ below (va_Qi (fun r (_ : Unit) => post r) (qB D vwCl (tS q) (fun _ : Unit => (wS g q kS vS bS llS lvS lhS mvS)) A) A) ([.ref (g 0), .int a1, .int a2] : List Value).toArray s 0 0 A) (F0 m 5 ls []) := by
    intro x1 x2 n
    induction n with
    | zero => intro x3 x4 hw; exact False.elim (show False from hw)
    | succ n ih =>
      intro x3 x4 hw H locs ls hP hD hS hl
      rw [wp_S_keysAmong_L5] at hw
      refine lv_iload hx hb dX0_keysAmong_5 (lv_at hl 4 rfl) ?_
      refine lv_iload_n hx hb dX0_keysAmong_7 rfl (lv_at hl 1 rfl) ?_
      refine lv_iload_n hx hb dX0_keysAmong_8 rfl (lv_at hl 2 rfl) ?_
      refine lv_iadd hx hb dX0_keysAmong_9 ?_
      refine lv_icmp_ge (tgt := 36) hx hb dX0_keysAmong_10 (by decide) (fun c_1 => ?_) (fun c_1 => ?_)
      · replace hw := hw.1 c_1
        refine lv_iload_n hx hb dX0_keysAmong_36 rfl (lv_at hl 3 rfl) ?_
        exact q_iret () hx hb hr hlocks hK dX0_keysAmong_37 hS hP hD hw
      · replace hw := hw.2 c_1
        refine lv_aload_n hx hb dX0_keysAmong_13 rfl (lv_at hl 0 rfl) ?_
        refine va_get (D := D) (ci := 0) (v := .ref (g 1)) (C := RX0) (T := TX0) (N := 7) hx hb hts (fun w h => List.mem_cons_of_mem _ (iX0 w h)) hown hK hP 0 rfl rfl 0 (by decide) hf_keys (fun _ h9 => h9) rfl dX0_keysAmong_14 ?_
        refine lv_iload hx hb dX0_keysAmong_17 (lv_at hl 4 rfl) ?_
        obtain ⟨hi_2, hw⟩ := hw
        refine va_lald hx hb hK hP 1 0 rfl rfl hi_2 dX0_keysAmong_19 ?_
        refine lv_ldc2 (v := NOK) hx hb hown (hts _ (List.mem_cons_of_mem _ tcn_X0_13)) dX0_keysAmong_20 ?_
        refine q_lc_eq (tgt := 30) hx hb dX0_keysAmong_23 dX0_keysAmong_24 (by decide) (fun c_3 => ?_) (fun c_3 => ?_)
        · replace hw := hw.1 c_3
          refine lv_iinc (v := (x4 + 1)) (lv' := [(4, .int (x4 + 1)), (0, .ref (g 0)), (1, .int x1), (2, .int x2), (3, .int x3)]) hx hb dX0_keysAmong_30 hl (k := 4) rfl rfl (by decide) rfl (fun ls hl => ?_)
          refine lv_goto (tgt := 5) hx hb dX0_keysAmong_33 (by decide) ?_
          exact ih x3 (x4 + 1) hw _ _ ls hP hD hS (lv_sub hl [1, 2, 3, 4, 0] rfl)
        · replace hw := hw.2 c_3
          refine lv_iinc (v := (x3 + 1)) (lv' := [(3, .int (x3 + 1)), (0, .ref (g 0)), (1, .int x1), (2, .int x2), (4, .int x4)]) hx hb dX0_keysAmong_27 hl (k := 3) rfl rfl (by decide) rfl (fun ls hl => ?_)
          refine lv_iinc (v := (x4 + 1)) (lv' := [(4, .int (x4 + 1)), (3, .int (x3 + 1)), (0, .ref (g 0)), (1, .int x1), (2, .int x2)]) hx hb dX0_keysAmong_30 hl (k := 4) rfl rfl (by decide) rfl (fun ls hl => ?_)
          refine lv_goto (tgt := 5) hx hb dX0_keysAmong_33 (by decide) ?_
          exact ih (x3 + 1) (x4 + 1) hw _ _ ls hP hD hS (lv_sub hl [2, 3, 4, 1, 0] rfl)
  unfold wp_S_keysAmong at hw
  refine lv_iconst (v := 0) hx hb dX0_keysAmong_0 (by decide) ?_
  refine lv_istore_n (lv' := [(3, .int 0), (0, .ref (g 0)), (1, .int a1), (2, .int a2)]) hx hb dX0_keysAmong_1 rfl hl (by decide) rfl (fun ls hl => ?_)
  refine lv_iload_n hx hb dX0_keysAmong_2 rfl (lv_at hl 2 rfl) ?_
  refine lv_istore (lv' := [(4, .int a1), (3, .int 0), (0, .ref (g 0)), (1, .int a1), (2, .int a2)]) hx hb dX0_keysAmong_3 hl (by decide) rfl (fun ls hl => ?_)
  obtain ⟨n0, hw⟩ := hw
  exact L5 a1 a2 n0 0 a1 hw _ _ ls hP hD hS (lv_sub hl [2, 3, 4, 1, 0] rfl)
set_option maxHeartbeats 4000000 in
set_option maxRecDepth 100000 in
theorem c_S_keysInWindow (l : Launch) (D : va_G) (g : Nat → Nat) (q : Nat → ClassId) (kS : Nat → Int64) (vS : Nat → Int64) (bS : Nat → Int32) (llS : Int32) (lvS : Int32) (lhS : Int32) (mvS : Int64) (a1 : Int32) (a2 : Int32) (post : Int32 → Prop) (hw : wp_S_keysInWindow kS a1 a2 post) (sz : Nat) : Met l yX0_keysInWindow wsX0_keysInWindow ({ frames := 2, cells := 0, slots := 0, locals := 41 }) (qP D vwCl (tS q) (wS g q kS vS bS llS lvS lhS mvS) sz [.ref (g 0), .int a1, .int a2]) (va_Qi (fun r (_ : Unit) => post r) (qB D vwCl (tS q) (fun _ : Unit => (wS g q kS vS bS llS lvS lhS mvS)) (va_A (wS g q kS vS bS llS lvS lhS mvS) sz)) (va_A (wS g q kS vS bS llS lvS lhS mvS) sz)) 0 0 (va_A (wS g q kS vS bS llS lvS lhS mvS) sz) := by
  refine q_enter (cc := cX0_keysInWindow) (maxL := 3) (ret := (some .int)) (fun A => va_Qi (fun r (_ : Unit) => post r) (qB D vwCl (tS q) (fun _ : Unit => (wS g q kS vS bS llS lvS lhS mvS)) A) A) (by decide +kernel) rfl (Nat.le_of_ble_eq_true rfl) ?_
  intro p e s m below meth c A ls hx hb hr hml hown hts hlocks hname hP hK hD hA hl
  replace hown : s.vm.findClass RX0 = some m.cls := hown
  replace hl : lv_has ls 3 [(0, .ref (g 0)), (1, .int a1), (2, .int a2)] := hl
  have hS : va_S A s.heap s.heap [] := va_S.rf
  unfold wp_S_keysInWindow at hw
  refine lv_aload_n hx hb dX0_keysInWindow_0 rfl (lv_at hl 0 rfl) ?_
  refine lv_iload_n hx hb dX0_keysInWindow_1 rfl (lv_at hl 1 rfl) ?_
  refine lv_iload_n hx hb dX0_keysInWindow_2 rfl (lv_at hl 2 rfl) ?_
  refine q_callSi (As := [.int a1, .int a2]) (rest := [.ref (g 0)]) (wr := (wS g q kS vS bS llS lvS lhS mvS)) [] [0, 1, 2, 3] ⟨hx, hb, hml, hown, hts⟩ (c_S_firstCell l D a1 a2 _ hw _) (va_cwS 2 hts gX0_keysInWindow_X0_firstCell rfl rfl rfl (by decide +kernel) ⟨Nat.le_of_ble_eq_true rfl, Nat.le_of_ble_eq_true rfl⟩) (hK.sub (tys' := []) [] rfl) hP hD hS hA rfl rfl rfl (by decide) (by decide) (by decide) rfl hl.1 rfl (Nat.le_of_ble_eq_true rfl) dX0_keysInWindow_3 ⟨Nat.zero_le _, Nat.zero_le _⟩ (fun r_1 u H locs hw hP hD hS => ?_)
  try dsimp only at hw
  replace hP : va_P D vwCl (wS g q kS vS bS llS lvS lhS mvS) H := hP
  replace hD : va_D A (wS g q kS vS bS llS lvS lhS mvS) := hD
  refine lv_iload_n hx hb dX0_keysInWindow_6 rfl (lv_at hl 2 rfl) ?_
  refine q_callSi (As := [.int a2]) (rest := [.int r_1, .ref (g 0)]) (wr := (wS g q kS vS bS llS lvS lhS mvS)) [] [0, 1, 2, 3] ⟨hx, hb, hml, hown, hts⟩ (c_S_windowCells l D a2 _ hw _) (va_cwS 1 hts gX0_keysInWindow_X0_windowCells rfl rfl rfl (by decide +kernel) ⟨Nat.le_of_ble_eq_true rfl, Nat.le_of_ble_eq_true rfl⟩) (hK.sub (tys' := []) [] rfl) hP hD hS hA rfl rfl rfl (by decide) (by decide) (by decide) rfl hl.1 rfl (Nat.le_of_ble_eq_true rfl) dX0_keysInWindow_7 ⟨Nat.zero_le _, Nat.zero_le _⟩ (fun r_2 u H locs hw hP hD hS => ?_)
  try dsimp only at hw
  replace hP : va_P D vwCl (wS g q kS vS bS llS lvS lhS mvS) H := hP
  replace hD : va_D A (wS g q kS vS bS llS lvS lhS mvS) := hD
  refine q_callVi (As := [.int r_1, .int r_2]) (rest := []) (wr := []) [0, 1, 2, 3] [] ⟨hx, hb, hml, hown, hts⟩ (c_S_keysAmong l D g q kS vS bS llS lvS lhS mvS r_1 r_2 _ hw _) (cwV 2 hts gX0_keysInWindow_X0_keysAmong rfl rfl rfl (by decide +kernel) ⟨Nat.le_of_ble_eq_true rfl, Nat.le_of_ble_eq_true rfl⟩) (va_recv hK hP (ci := 0) (q0 := 0) rfl rfl) hK hP hD hS hA rfl rfl rfl (by decide) (by decide) (by decide) rfl hl.1 rfl (Nat.le_of_ble_eq_true rfl) dX0_keysInWindow_10 ⟨Nat.zero_le _, Nat.zero_le _⟩ (fun r_3 u H locs hw hP hD hS => ?_)
  try dsimp only at hw
  replace hP : va_P D vwCl (wS g q kS vS bS llS lvS lhS mvS) H := hP
  replace hD : va_D A (wS g q kS vS bS llS lvS lhS mvS) := hD
  exact q_iret () hx hb hr hlocks hK dX0_keysInWindow_13 hS hP hD hw
set_option maxHeartbeats 4000000 in
set_option maxRecDepth 100000 in
theorem c_S_mostKeys (l : Launch) (D : va_G) (g : Nat → Nat) (q : Nat → ClassId) (kS : Nat → Int64) (vS : Nat → Int64) (bS : Nat → Int32) (llS : Int32) (lvS : Int32) (lhS : Int32) (mvS : Int64) (a1 : Int32) (post : Int32 → Prop) (hw : wp_S_mostKeys lvS a1 post) (sz : Nat) : Met l yX0_mostKeys wsX0_mostKeys ({ frames := 1, cells := 0, slots := 0, locals := 20 }) (qP D vwCl (tS q) (wS g q kS vS bS llS lvS lhS mvS) sz [.ref (g 0), .int a1]) (va_Qi (fun r (_ : Unit) => post r) (qB D vwCl (tS q) (fun _ : Unit => (wS g q kS vS bS llS lvS lhS mvS)) (va_A (wS g q kS vS bS llS lvS lhS mvS) sz)) (va_A (wS g q kS vS bS llS lvS lhS mvS) sz)) 0 0 (va_A (wS g q kS vS bS llS lvS lhS mvS) sz) := by
  refine q_enter (cc := cX0_mostKeys) (maxL := 2) (ret := (some .int)) (fun A => va_Qi (fun r (_ : Unit) => post r) (qB D vwCl (tS q) (fun _ : Unit => (wS g q kS vS bS llS lvS lhS mvS)) A) A) (by decide +kernel) rfl (Nat.le_of_ble_eq_true rfl) ?_
  intro p e s m below meth c A ls hx hb hr hml hown hts hlocks hname hP hK hD hA hl
  replace hown : s.vm.findClass RX0 = some m.cls := hown
  replace hl : lv_has ls 2 [(0, .ref (g 0)), (1, .int a1)] := hl
  have hS : va_S A s.heap s.heap [] := va_S.rf
  have hf_levels := hts _ (List.mem_cons_of_mem _ tfl_X0_32)
  unfold wp_S_mostKeys at hw
  refine lv_iload_n hx hb dX0_mostKeys_0 rfl (lv_at hl 1 rfl) ?_
  refine q_callSi (As := [.int a1]) (rest := []) (wr := (wS g q kS vS bS llS lvS lhS mvS)) [] [0, 1, 2, 3] ⟨hx, hb, hml, hown, hts⟩ (c_S_windowCells l D a1 _ hw _) (va_cwS 1 hts gX0_mostKeys_X0_windowCells rfl rfl rfl (by decide +kernel) ⟨Nat.le_of_ble_eq_true rfl, Nat.le_of_ble_eq_true rfl⟩) (hK.sub (tys' := []) [] rfl) hP hD hS hA rfl rfl rfl (by decide) (by decide) (by decide) rfl hl.1 rfl (Nat.le_of_ble_eq_true rfl) dX0_mostKeys_1 ⟨Nat.zero_le _, Nat.zero_le _⟩ (fun r_1 u H locs hw hP hD hS => ?_)
  try dsimp only at hw
  replace hP : va_P D vwCl (wS g q kS vS bS llS lvS lhS mvS) H := hP
  replace hD : va_D A (wS g q kS vS bS llS lvS lhS mvS) := hD
  refine lv_iconst (v := 4) hx hb dX0_mostKeys_4 (by decide) ?_
  refine lv_aload_n hx hb dX0_mostKeys_5 rfl (lv_at hl 0 rfl) ?_
  refine va_get (D := D) (ci := 0) (v := .int lvS) (C := RX0) (T := TX0) (N := 7) hx hb hts (fun w h => List.mem_cons_of_mem _ (iX0 w h)) hown hK hP 0 rfl rfl 4 (by decide) hf_levels (fun _ h9 => h9) rfl dX0_mostKeys_6 ?_
  refine lv_imul hx hb dX0_mostKeys_9 ?_
  refine lv_iload_n hx hb dX0_mostKeys_10 rfl (lv_at hl 1 rfl) ?_
  refine lv_isub hx hb dX0_mostKeys_11 ?_
  refine lv_imul hx hb dX0_mostKeys_12 ?_
  refine lv_iconst (v := 4) hx hb dX0_mostKeys_13 (by decide) ?_
  refine lv_aload_n hx hb dX0_mostKeys_14 rfl (lv_at hl 0 rfl) ?_
  refine va_get (D := D) (ci := 0) (v := .int lvS) (C := RX0) (T := TX0) (N := 7) hx hb hts (fun w h => List.mem_cons_of_mem _ (iX0 w h)) hown hK hP 0 rfl rfl 4 (by decide) hf_levels (fun _ h9 => h9) rfl dX0_mostKeys_15 ?_
  refine lv_imul hx hb dX0_mostKeys_18 ?_
  obtain ⟨hz_2, hw⟩ := hw
  refine lv_idiv hx hb dX0_mostKeys_19 hz_2 ?_
  exact q_iret () hx hb hr hlocks hK dX0_mostKeys_20 hS hP hD hw
set_option maxHeartbeats 4000000 in
set_option maxRecDepth 100000 in
theorem c_S_heightWithRoom (l : Launch) (D : va_G) (g : Nat → Nat) (q : Nat → ClassId) (kS : Nat → Int64) (vS : Nat → Int64) (bS : Nat → Int32) (llS : Int32) (lvS : Int32) (lhS : Int32) (mvS : Int64) (a1 : Int32) (post : Int32 → Prop) (hw : wp_S_heightWithRoom kS lvS a1 post) (sz : Nat) : Met l yX0_heightWithRoom wsX0_heightWithRoom ({ frames := 3, cells := 0, slots := 0, locals := 63 }) (qP D vwCl (tS q) (wS g q kS vS bS llS lvS lhS mvS) sz [.ref (g 0), .int a1]) (va_Qi (fun r (_ : Unit) => post r) (qB D vwCl (tS q) (fun _ : Unit => (wS g q kS vS bS llS lvS lhS mvS)) (va_A (wS g q kS vS bS llS lvS lhS mvS) sz)) (va_A (wS g q kS vS bS llS lvS lhS mvS) sz)) 0 0 (va_A (wS g q kS vS bS llS lvS lhS mvS) sz) := by
  refine q_enter (cc := cX0_heightWithRoom) (maxL := 3) (ret := (some .int)) (fun A => va_Qi (fun r (_ : Unit) => post r) (qB D vwCl (tS q) (fun _ : Unit => (wS g q kS vS bS llS lvS lhS mvS)) A) A) (by decide +kernel) rfl (Nat.le_of_ble_eq_true rfl) ?_
  intro p e s m below meth c A ls hx hb hr hml hown hts hlocks hname hP hK hD hA hl
  replace hown : s.vm.findClass RX0 = some m.cls := hown
  replace hl : lv_has ls 3 [(0, .ref (g 0)), (1, .int a1)] := hl
  have hS : va_S A s.heap s.heap [] := va_S.rf
  have hf_levels := hts _ (List.mem_cons_of_mem _ tfl_X0_32)
  have L2 : ∀ (x1 : Int32) (n : Nat) (x2 : Int32), wp_S_heightWithRoom_L2 kS lvS x1 post n x2 → ∀ (H : Heap) (locs : List Loc) (ls : Array Slot), va_P D vwCl (wS g q kS vS bS llS lvS lhS mvS) H → va_D A (wS g q kS vS bS llS lvS lhS mvS) → va_S A s.heap H locs → lv_has ls 3 [(0, .ref (g 0)), (1, .int x1), (2, .int x2)] → W p l e { frames := 3, cells := 0, slots := 0, locals := 63 } s m ([.ref (g 0), .int a1] : List Value).toArray below meth c H locs 0 0 (MQ below (va_Qi (fun r (_ : Unit) => post r) (qB D vwCl (tS q) (fun _ : Unit => (wS g q kS vS bS llS lvS lhS mvS)) A) A) ([.ref (g 0), .int a1] : List Value).toArray s 0 0 A) (F0 m 2 ls []) := by
    intro x1 n
    induction n with
    | zero => intro x2 hw; exact False.elim (show False from hw)
    | succ n ih =>
      intro x2 hw H locs ls hP hD hS hl
      rw [wp_S_heightWithRoom_L2] at hw
      refine lv_iload_n hx hb dX0_heightWithRoom_2 rfl (lv_at hl 2 rfl) ?_
      refine lv_aload_n hx hb dX0_heightWithRoom_3 rfl (lv_at hl 0 rfl) ?_
      refine va_get (D := D) (ci := 0) (v := .int lvS) (C := RX0) (T := TX0) (N := 7) hx hb hts (fun w h => List.mem_cons_of_mem _ (iX0 w h)) hown hK hP 0 rfl rfl 4 (by decide) hf_levels (fun _ h9 => h9) rfl dX0_heightWithRoom_4 ?_
      refine lv_icmp_gt (tgt := 34) hx hb dX0_heightWithRoom_7 (by decide) (fun c_1 => ?_) (fun c_1 => ?_)
      · replace hw := hw.1 c_1
        refine lv_iconst (v := (-1)) hx hb dX0_heightWithRoom_34 (by decide) ?_
        exact q_iret () hx hb hr hlocks hK dX0_heightWithRoom_35 hS hP hD hw
      · replace hw := hw.2 c_1
        refine lv_aload_n hx hb dX0_heightWithRoom_10 rfl (lv_at hl 0 rfl) ?_
        refine lv_iload_n hx hb dX0_heightWithRoom_11 rfl (lv_at hl 1 rfl) ?_
        refine lv_iload_n hx hb dX0_heightWithRoom_12 rfl (lv_at hl 2 rfl) ?_
        refine q_callVi (As := [.int x1, .int x2]) (rest := []) (wr := []) [0, 1, 2, 3] [] ⟨hx, hb, hml, hown, hts⟩ (c_S_keysInWindow l D g q kS vS bS llS lvS lhS mvS x1 x2 _ hw _) (cwV 2 hts gX0_heightWithRoom_X0_keysInWindow rfl rfl rfl (by decide +kernel) ⟨Nat.le_of_ble_eq_true rfl, Nat.le_of_ble_eq_true rfl⟩) (va_recv hK hP (ci := 0) (q0 := 0) rfl rfl) hK hP hD hS hA rfl rfl rfl (by decide) (by decide) (by decide) rfl hl.1 rfl (Nat.le_of_ble_eq_true rfl) dX0_heightWithRoom_13 ⟨Nat.zero_le _, Nat.zero_le _⟩ (fun r_2 u H locs hw hP hD hS => ?_)
        try dsimp only at hw
        replace hP : va_P D vwCl (wS g q kS vS bS llS lvS lhS mvS) H := hP
        replace hD : va_D A (wS g q kS vS bS llS lvS lhS mvS) := hD
        refine lv_iconst (v := 1) hx hb dX0_heightWithRoom_16 (by decide) ?_
        refine lv_iadd hx hb dX0_heightWithRoom_17 ?_
        refine lv_aload_n hx hb dX0_heightWithRoom_18 rfl (lv_at hl 0 rfl) ?_
        refine lv_iload_n hx hb dX0_heightWithRoom_19 rfl (lv_at hl 2 rfl) ?_
        refine q_callVi (As := [.int x2]) (rest := [.int (r_2 + 1)]) (wr := []) [0, 1, 2, 3] [] ⟨hx, hb, hml, hown, hts⟩ (c_S_mostKeys l D g q kS vS bS llS lvS lhS mvS x2 _ hw _) (cwV 1 hts gX0_heightWithRoom_X0_mostKeys rfl rfl rfl (by decide +kernel) ⟨Nat.le_of_ble_eq_true rfl, Nat.le_of_ble_eq_true rfl⟩) (va_recv hK hP (ci := 0) (q0 := 0) rfl rfl) hK hP hD hS hA rfl rfl rfl (by decide) (by decide) (by decide) rfl hl.1 rfl (Nat.le_of_ble_eq_true rfl) dX0_heightWithRoom_20 ⟨Nat.zero_le _, Nat.zero_le _⟩ (fun r_3 u H locs hw hP hD hS => ?_)
        try dsimp only at hw
        replace hP : va_P D vwCl (wS g q kS vS bS llS lvS lhS mvS) H := hP
        replace hD : va_D A (wS g q kS vS bS llS lvS lhS mvS) := hD
        refine lv_icmp_gt (tgt := 28) hx hb dX0_heightWithRoom_23 (by decide) (fun c_4 => ?_) (fun c_4 => ?_)
        · replace hw := hw.1 c_4
          refine lv_iinc (v := (x2 + 1)) (lv' := [(2, .int (x2 + 1)), (0, .ref (g 0)), (1, .int x1)]) hx hb dX0_heightWithRoom_28 hl (k := 2) rfl rfl (by decide) rfl (fun ls hl => ?_)
          refine lv_goto (tgt := 2) hx hb dX0_heightWithRoom_31 (by decide) ?_
          exact ih (x2 + 1) hw _ _ ls hP hD hS (lv_sub hl [1, 2, 0] rfl)
        · replace hw := hw.2 c_4
          refine lv_iload_n hx hb dX0_heightWithRoom_26 rfl (lv_at hl 2 rfl) ?_
          exact q_iret () hx hb hr hlocks hK dX0_heightWithRoom_27 hS hP hD hw
  unfold wp_S_heightWithRoom at hw
  refine lv_iconst (v := 0) hx hb dX0_heightWithRoom_0 (by decide) ?_
  refine lv_istore_n (lv' := [(2, .int 0), (0, .ref (g 0)), (1, .int a1)]) hx hb dX0_heightWithRoom_1 rfl hl (by decide) rfl (fun ls hl => ?_)
  obtain ⟨n0, hw⟩ := hw
  exact L2 a1 n0 0 hw _ _ ls hP hD hS (lv_sub hl [1, 2, 0] rfl)
set_option maxHeartbeats 4000000 in
set_option maxRecDepth 100000 in
theorem c_S_clear (l : Launch) (D : va_G) (g : Nat → Nat) (q : Nat → ClassId) (kS : Nat → Int64) (vS : Nat → Int64) (bS : Nat → Int32) (llS : Int32) (lvS : Int32) (lhS : Int32) (mvS : Int64) (a1 : Int32) (post : (Nat → Int64) → (Nat → Int64) → Prop) (hw : wp_S_clear kS vS a1 post) (sz : Nat) : Met l yX0_clear wsX0_clear ({ frames := 0, cells := 0, slots := 0, locals := 0 }) (qP D vwCl (tS q) (wS g q kS vS bS llS lvS lhS mvS) sz [.ref (g 0), .int a1]) (va_Qv (fun (u : (Nat → Int64) × (Nat → Int64)) => post u.1 u.2) (qB D vwCl (tS q) (fun u : (Nat → Int64) × (Nat → Int64) => (wS g q u.1 u.2 bS llS lvS lhS mvS)) (va_A (wS g q kS vS bS llS lvS lhS mvS) sz)) (va_A (wS g q kS vS bS llS lvS lhS mvS) sz)) 0 0 (va_A (wS g q kS vS bS llS lvS lhS mvS) sz) := by
  refine q_enter (cc := cX0_clear) (maxL := 2) (ret := none) (fun A => va_Qv (fun (u : (Nat → Int64) × (Nat → Int64)) => post u.1 u.2) (qB D vwCl (tS q) (fun u : (Nat → Int64) × (Nat → Int64) => (wS g q u.1 u.2 bS llS lvS lhS mvS)) A) A) (by decide +kernel) rfl (Nat.le_of_ble_eq_true rfl) ?_
  intro p e s m below meth c A ls hx hb hr hml hown hts hlocks hname hP hK hD hA hl
  replace hown : s.vm.findClass RX0 = some m.cls := hown
  replace hl : lv_has ls 2 [(0, .ref (g 0)), (1, .int a1)] := hl
  have hS : va_S A s.heap s.heap [] := va_S.rf
  have hf_values := hts _ (List.mem_cons_of_mem _ tfl_X0_21)
  have hf_keys := hts _ (List.mem_cons_of_mem _ tfl_X0_9)
  unfold wp_S_clear at hw
  refine lv_aload_n hx hb dX0_clear_0 rfl (lv_at hl 0 rfl) ?_
  refine va_get (D := D) (ci := 0) (v := .ref (g 1)) (C := RX0) (T := TX0) (N := 7) hx hb hts (fun w h => List.mem_cons_of_mem _ (iX0 w h)) hown hK hP 0 rfl rfl 0 (by decide) hf_keys (fun _ h9 => h9) rfl dX0_clear_1 ?_
  refine lv_iload_n hx hb dX0_clear_4 rfl (lv_at hl 1 rfl) ?_
  refine lv_ldc2 (v := NOK) hx hb hown (hts _ (List.mem_cons_of_mem _ tcn_X0_13)) dX0_clear_5 ?_
  obtain ⟨hi_1, hw⟩ := hw
  refine va_last hx hb hK hP hD hS 1 0 rfl rfl hi_1 dX0_clear_8 (fun H locs hP hD hS => ?_)
  replace hP : va_P D vwCl (wS g q (vp_updL kS a1.toNatClampNeg NOK) vS bS llS lvS lhS mvS) H := hP
  replace hD : va_D A (wS g q (vp_updL kS a1.toNatClampNeg NOK) vS bS llS lvS lhS mvS) := hD
  refine lv_aload_n hx hb dX0_clear_9 rfl (lv_at hl 0 rfl) ?_
  refine va_get (D := D) (ci := 0) (v := .ref (g 2)) (C := RX0) (T := TX0) (N := 7) hx hb hts (fun w h => List.mem_cons_of_mem _ (iX0 w h)) hown hK hP 0 rfl rfl 1 (by decide) hf_values (fun _ h9 => h9) rfl dX0_clear_10 ?_
  refine lv_iload_n hx hb dX0_clear_13 rfl (lv_at hl 1 rfl) ?_
  refine lv_lconst (v := 0) hx hb dX0_clear_14 (by decide) ?_
  refine va_last hx hb hK hP hD hS 2 1 rfl rfl hi_1 dX0_clear_15 (fun H locs hP hD hS => ?_)
  replace hP : va_P D vwCl (wS g q (vp_updL kS a1.toNatClampNeg NOK) (vp_updL vS a1.toNatClampNeg 0) bS llS lvS lhS mvS) H := hP
  replace hD : va_D A (wS g q (vp_updL kS a1.toNatClampNeg NOK) (vp_updL vS a1.toNatClampNeg 0) bS llS lvS lhS mvS) := hD
  exact q_vret ((vp_updL kS a1.toNatClampNeg NOK), (vp_updL vS a1.toNatClampNeg 0)) hx hb hr hlocks hK dX0_clear_16 hS hP hD hw
set_option maxHeartbeats 4000000 in
set_option maxRecDepth 100000 in
theorem c_S_shift (l : Launch) (D : va_G) (g : Nat → Nat) (q : Nat → ClassId) (kS : Nat → Int64) (vS : Nat → Int64) (bS : Nat → Int32) (llS : Int32) (lvS : Int32) (lhS : Int32) (mvS : Int64) (a1 : Int32) (a2 : Int32) (post : (Nat → Int64) → (Nat → Int64) → Prop) (hw : wp_S_shift kS vS a1 a2 post) (sz : Nat) : Met l yX0_shift wsX0_shift ({ frames := 1, cells := 0, slots := 0, locals := 21 }) (qP D vwCl (tS q) (wS g q kS vS bS llS lvS lhS mvS) sz [.ref (g 0), .int a1, .int a2]) (va_Qv (fun (u : (Nat → Int64) × (Nat → Int64)) => post u.1 u.2) (qB D vwCl (tS q) (fun u : (Nat → Int64) × (Nat → Int64) => (wS g q u.1 u.2 bS llS lvS lhS mvS)) (va_A (wS g q kS vS bS llS lvS lhS mvS) sz)) (va_A (wS g q kS vS bS llS lvS lhS mvS) sz)) 0 0 (va_A (wS g q kS vS bS llS lvS lhS mvS) sz) := by
  refine q_enter (cc := cX0_shift) (maxL := 3) (ret := none) (fun A => va_Qv (fun (u : (Nat → Int64) × (Nat → Int64)) => post u.1 u.2) (qB D vwCl (tS q) (fun u : (Nat → Int64) × (Nat → Int64) => (wS g q u.1 u.2 bS llS lvS lhS mvS)) A) A) (by decide +kernel) rfl (Nat.le_of_ble_eq_true rfl) ?_
  intro p e s m below meth c A ls hx hb hr hml hown hts hlocks hname hP hK hD hA hl
  replace hown : s.vm.findClass RX0 = some m.cls := hown
  replace hl : lv_has ls 3 [(0, .ref (g 0)), (1, .int a1), (2, .int a2)] := hl
  have hS : va_S A s.heap s.heap [] := va_S.rf
  have hf_values := hts _ (List.mem_cons_of_mem _ tfl_X0_21)
  have hf_keys := hts _ (List.mem_cons_of_mem _ tfl_X0_9)
  unfold wp_S_shift at hw
  refine lv_iload_n hx hb dX0_shift_0 rfl (lv_at hl 1 rfl) ?_
  refine lv_iload_n hx hb dX0_shift_1 rfl (lv_at hl 2 rfl) ?_
  refine lv_icmp_eq (tgt := 34) hx hb dX0_shift_2 (by decide) (fun c_1 => ?_) (fun c_1 => ?_)
  · replace hw := hw.1 c_1
    exact q_vret (kS, vS) hx hb hr hlocks hK dX0_shift_34 hS hP hD hw
  · replace hw := hw.2 c_1
    refine lv_aload_n hx hb dX0_shift_5 rfl (lv_at hl 0 rfl) ?_
    refine va_get (D := D) (ci := 0) (v := .ref (g 1)) (C := RX0) (T := TX0) (N := 7) hx hb hts (fun w h => List.mem_cons_of_mem _ (iX0 w h)) hown hK hP 0 rfl rfl 0 (by decide) hf_keys (fun _ h9 => h9) rfl dX0_shift_6 ?_
    refine lv_iload_n hx hb dX0_shift_9 rfl (lv_at hl 2 rfl) ?_
    refine lv_aload_n hx hb dX0_shift_10 rfl (lv_at hl 0 rfl) ?_
    refine va_get (D := D) (ci := 0) (v := .ref (g 1)) (C := RX0) (T := TX0) (N := 7) hx hb hts (fun w h => List.mem_cons_of_mem _ (iX0 w h)) hown hK hP 0 rfl rfl 0 (by decide) hf_keys (fun _ h9 => h9) rfl dX0_shift_11 ?_
    refine lv_iload_n hx hb dX0_shift_14 rfl (lv_at hl 1 rfl) ?_
    obtain ⟨hi_2, hw⟩ := hw
    refine va_lald hx hb hK hP 1 0 rfl rfl hi_2 dX0_shift_15 ?_
    obtain ⟨hi_3, hw⟩ := hw
    refine va_last hx hb hK hP hD hS 1 0 rfl rfl hi_3 dX0_shift_16 (fun H locs hP hD hS => ?_)
    replace hP : va_P D vwCl (wS g q (vp_updL kS a2.toNatClampNeg (kS a1.toNatClampNeg)) vS bS llS lvS lhS mvS) H := hP
    replace hD : va_D A (wS g q (vp_updL kS a2.toNatClampNeg (kS a1.toNatClampNeg)) vS bS llS lvS lhS mvS) := hD
    refine lv_aload_n hx hb dX0_shift_17 rfl (lv_at hl 0 rfl) ?_
    refine va_get (D := D) (ci := 0) (v := .ref (g 2)) (C := RX0) (T := TX0) (N := 7) hx hb hts (fun w h => List.mem_cons_of_mem _ (iX0 w h)) hown hK hP 0 rfl rfl 1 (by decide) hf_values (fun _ h9 => h9) rfl dX0_shift_18 ?_
    refine lv_iload_n hx hb dX0_shift_21 rfl (lv_at hl 2 rfl) ?_
    refine lv_aload_n hx hb dX0_shift_22 rfl (lv_at hl 0 rfl) ?_
    refine va_get (D := D) (ci := 0) (v := .ref (g 2)) (C := RX0) (T := TX0) (N := 7) hx hb hts (fun w h => List.mem_cons_of_mem _ (iX0 w h)) hown hK hP 0 rfl rfl 1 (by decide) hf_values (fun _ h9 => h9) rfl dX0_shift_23 ?_
    refine lv_iload_n hx hb dX0_shift_26 rfl (lv_at hl 1 rfl) ?_
    refine va_lald hx hb hK hP 2 1 rfl rfl hi_2 dX0_shift_27 ?_
    refine va_last hx hb hK hP hD hS 2 1 rfl rfl hi_3 dX0_shift_28 (fun H locs hP hD hS => ?_)
    replace hP : va_P D vwCl (wS g q (vp_updL kS a2.toNatClampNeg (kS a1.toNatClampNeg)) (vp_updL vS a2.toNatClampNeg (vS a1.toNatClampNeg)) bS llS lvS lhS mvS) H := hP
    replace hD : va_D A (wS g q (vp_updL kS a2.toNatClampNeg (kS a1.toNatClampNeg)) (vp_updL vS a2.toNatClampNeg (vS a1.toNatClampNeg)) bS llS lvS lhS mvS) := hD
    refine lv_aload_n hx hb dX0_shift_29 rfl (lv_at hl 0 rfl) ?_
    refine lv_iload_n hx hb dX0_shift_30 rfl (lv_at hl 1 rfl) ?_
    refine q_callVv (As := [.int a1]) (rest := []) (wr := []) [0, 1, 2, 3] [] ⟨hx, hb, hml, hown, hts⟩ (c_S_clear l D g q (vp_updL kS a2.toNatClampNeg (kS a1.toNatClampNeg)) (vp_updL vS a2.toNatClampNeg (vS a1.toNatClampNeg)) bS llS lvS lhS mvS a1 _ hw _) (cwV 1 hts gX0_shift_X0_clear rfl rfl rfl (by decide +kernel) ⟨Nat.le_of_ble_eq_true rfl, Nat.le_of_ble_eq_true rfl⟩) (va_recv hK hP (ci := 0) (q0 := 0) rfl rfl) hK hP hD hS hA rfl rfl rfl (by decide) (by decide) (by decide) rfl hl.1 rfl (Nat.le_of_ble_eq_true rfl) dX0_shift_31 ⟨Nat.zero_le _, Nat.zero_le _⟩ (fun u H locs hw hP hD hS => ?_)
    obtain ⟨kS_4, vS_5⟩ := u
    try dsimp only at hw
    replace hP : va_P D vwCl (wS g q kS_4 vS_5 bS llS lvS lhS mvS) H := hP
    replace hD : va_D A (wS g q kS_4 vS_5 bS llS lvS lhS mvS) := hD
    exact q_vret (kS_4, vS_5) hx hb hr hlocks hK dX0_shift_34 hS hP hD hw
set_option maxHeartbeats 4000000 in
set_option maxRecDepth 100000 in
theorem c_S_pack (l : Launch) (D : va_G) (g : Nat → Nat) (q : Nat → ClassId) (kS : Nat → Int64) (vS : Nat → Int64) (bS : Nat → Int32) (llS : Int32) (lvS : Int32) (lhS : Int32) (mvS : Int64) (a1 : Int32) (a2 : Int32) (post : Int32 → (Nat → Int64) → (Nat → Int64) → Prop) (hw : wp_S_pack kS vS a1 a2 post) (sz : Nat) : Met l yX0_pack wsX0_pack ({ frames := 2, cells := 0, slots := 0, locals := 43 }) (qP D vwCl (tS q) (wS g q kS vS bS llS lvS lhS mvS) sz [.ref (g 0), .int a1, .int a2]) (va_Qi (fun r (u : (Nat → Int64) × (Nat → Int64)) => post r u.1 u.2) (qB D vwCl (tS q) (fun u : (Nat → Int64) × (Nat → Int64) => (wS g q u.1 u.2 bS llS lvS lhS mvS)) (va_A (wS g q kS vS bS llS lvS lhS mvS) sz)) (va_A (wS g q kS vS bS llS lvS lhS mvS) sz)) 0 0 (va_A (wS g q kS vS bS llS lvS lhS mvS) sz) := by
  refine q_enter (cc := cX0_pack) (maxL := 5) (ret := (some .int)) (fun A => va_Qi (fun r (u : (Nat → Int64) × (Nat → Int64)) => post r u.1 u.2) (qB D vwCl (tS q) (fun u : (Nat → Int64) × (Nat → Int64) => (wS g q u.1 u.2 bS llS lvS lhS mvS)) A) A) (by decide +kernel) rfl (Nat.le_of_ble_eq_true rfl) ?_
  intro p e s m below meth c A ls hx hb hr hml hown hts hlocks hname hP hK hD hA hl
  replace hown : s.vm.findClass RX0 = some m.cls := hown
  replace hl : lv_has ls 5 [(0, .ref (g 0)), (1, .int a1), (2, .int a2)] := hl
  have hS : va_S A s.heap s.heap [] := va_S.rf
  have hf_keys := hts _ (List.mem_cons_of_mem _ tfl_X0_9)
  have L5 : ∀ (x1 : Int32) (x2 : Int32) (n : Nat) (x3 : Int32) (x4 : Int32) (kS : Nat → Int64) (vS : Nat → Int64), wp_S_pack_L5 x1 x2 post n x3 x4 kS vS → ∀ (H : Heap) (locs : List Loc) (ls : Array Slot), va_P D vwCl (wS g q kS vS bS llS lvS lhS mvS) H → va_D A (wS g q kS vS bS llS lvS lhS mvS) → va_S A s.heap H locs → lv_has ls 5 [(0, .ref (g 0)), (1, .int x1), (2, .int x2), (3, .int x3), (4, .int x4)] → W p l e { frames := 2, cells := 0, slots := 0, locals := 43 } s m ([.ref (g 0), .int a1, .int a2] : List Value).toArray below meth c H locs 0 0 (MQ below (va_Qi (fun r (u : (Nat → Int64) × (Nat → Int64)) => post r u.1 u.2) (qB D vwCl (tS q) (fun u : (Nat → Int64) × (Nat → Int64) => (wS g q u.1 u.2 bS llS lvS lhS mvS)) A) A) ([.ref (g 0), .int a1, .int a2] : List Value).toArray s 0 0 A) (F0 m 5 ls []) := by
    intro x1 x2 n
    induction n with
    | zero => intro x3 x4 kS vS hw; exact False.elim (show False from hw)
    | succ n ih =>
      intro x3 x4 kS vS hw H locs ls hP hD hS hl
      rw [wp_S_pack_L5] at hw
      refine lv_iload hx hb dX0_pack_5 (lv_at hl 4 rfl) ?_
      refine lv_iload_n hx hb dX0_pack_7 rfl (lv_at hl 1 rfl) ?_
      refine lv_iload_n hx hb dX0_pack_8 rfl (lv_at hl 2 rfl) ?_
      refine lv_iadd hx hb dX0_pack_9 ?_
      refine lv_icmp_ge (tgt := 43) hx hb dX0_pack_10 (by decide) (fun c_1 => ?_) (fun c_1 => ?_)
      · replace hw := hw.1 c_1
        refine lv_iload_n hx hb dX0_pack_43 rfl (lv_at hl 3 rfl) ?_
        refine lv_iload_n hx hb dX0_pack_44 rfl (lv_at hl 1 rfl) ?_
        refine lv_isub hx hb dX0_pack_45 ?_
        exact q_iret (kS, vS) hx hb hr hlocks hK dX0_pack_46 hS hP hD hw
      · replace hw := hw.2 c_1
        refine lv_aload_n hx hb dX0_pack_13 rfl (lv_at hl 0 rfl) ?_
        refine va_get (D := D) (ci := 0) (v := .ref (g 1)) (C := RX0) (T := TX0) (N := 7) hx hb hts (fun w h => List.mem_cons_of_mem _ (iX0 w h)) hown hK hP 0 rfl rfl 0 (by decide) hf_keys (fun _ h9 => h9) rfl dX0_pack_14 ?_
        refine lv_iload hx hb dX0_pack_17 (lv_at hl 4 rfl) ?_
        obtain ⟨hi_2, hw⟩ := hw
        refine va_lald hx hb hK hP 1 0 rfl rfl hi_2 dX0_pack_19 ?_
        refine lv_ldc2 (v := NOK) hx hb hown (hts _ (List.mem_cons_of_mem _ tcn_X0_13)) dX0_pack_20 ?_
        refine q_lc_eq (tgt := 37) hx hb dX0_pack_23 dX0_pack_24 (by decide) (fun c_3 => ?_) (fun c_3 => ?_)
        · replace hw := hw.1 c_3
          refine lv_iinc (v := (x4 + 1)) (lv' := [(4, .int (x4 + 1)), (0, .ref (g 0)), (1, .int x1), (2, .int x2), (3, .int x3)]) hx hb dX0_pack_37 hl (k := 4) rfl rfl (by decide) rfl (fun ls hl => ?_)
          refine lv_goto (tgt := 5) hx hb dX0_pack_40 (by decide) ?_
          exact ih x3 (x4 + 1) kS vS hw _ _ ls hP hD hS (lv_sub hl [1, 2, 3, 4, 0] rfl)
        · replace hw := hw.2 c_3
          refine lv_aload_n hx hb dX0_pack_27 rfl (lv_at hl 0 rfl) ?_
          refine lv_iload hx hb dX0_pack_28 (lv_at hl 4 rfl) ?_
          refine lv_iload_n hx hb dX0_pack_30 rfl (lv_at hl 3 rfl) ?_
          refine q_callVv (As := [.int x4, .int x3]) (rest := []) (wr := []) [0, 1, 2, 3] [] ⟨hx, hb, hml, hown, hts⟩ (c_S_shift l D g q kS vS bS llS lvS lhS mvS x4 x3 _ hw _) (cwV 2 hts gX0_pack_X0_shift rfl rfl rfl (by decide +kernel) ⟨Nat.le_of_ble_eq_true rfl, Nat.le_of_ble_eq_true rfl⟩) (va_recv hK hP (ci := 0) (q0 := 0) rfl rfl) hK hP hD hS hA rfl rfl rfl (by decide) (by decide) (by decide) rfl hl.1 rfl (Nat.le_of_ble_eq_true rfl) dX0_pack_31 ⟨Nat.zero_le _, Nat.zero_le _⟩ (fun u H locs hw hP hD hS => ?_)
          obtain ⟨kS_4, vS_5⟩ := u
          try dsimp only at hw
          replace hP : va_P D vwCl (wS g q kS_4 vS_5 bS llS lvS lhS mvS) H := hP
          replace hD : va_D A (wS g q kS_4 vS_5 bS llS lvS lhS mvS) := hD
          refine lv_iinc (v := (x3 + 1)) (lv' := [(3, .int (x3 + 1)), (0, .ref (g 0)), (1, .int x1), (2, .int x2), (4, .int x4)]) hx hb dX0_pack_34 hl (k := 3) rfl rfl (by decide) rfl (fun ls hl => ?_)
          refine lv_iinc (v := (x4 + 1)) (lv' := [(4, .int (x4 + 1)), (3, .int (x3 + 1)), (0, .ref (g 0)), (1, .int x1), (2, .int x2)]) hx hb dX0_pack_37 hl (k := 4) rfl rfl (by decide) rfl (fun ls hl => ?_)
          refine lv_goto (tgt := 5) hx hb dX0_pack_40 (by decide) ?_
          exact ih (x3 + 1) (x4 + 1) kS_4 vS_5 hw _ _ ls hP hD hS (lv_sub hl [2, 3, 4, 1, 0] rfl)
  unfold wp_S_pack at hw
  refine lv_iload_n hx hb dX0_pack_0 rfl (lv_at hl 1 rfl) ?_
  refine lv_istore_n (lv' := [(3, .int a1), (0, .ref (g 0)), (1, .int a1), (2, .int a2)]) hx hb dX0_pack_1 rfl hl (by decide) rfl (fun ls hl => ?_)
  refine lv_iload_n hx hb dX0_pack_2 rfl (lv_at hl 2 rfl) ?_
  refine lv_istore (lv' := [(4, .int a1), (3, .int a1), (0, .ref (g 0)), (1, .int a1), (2, .int a2)]) hx hb dX0_pack_3 hl (by decide) rfl (fun ls hl => ?_)
  obtain ⟨n0, hw⟩ := hw
  exact L5 a1 a2 n0 a1 a1 kS vS hw _ _ ls hP hD hS (lv_sub hl [2, 3, 4, 1, 0] rfl)
