set_option maxHeartbeats 4000000 in
set_option maxRecDepth 100000 in
theorem c_S_halve (l : Launch) (D : va_G) (g : Nat → Nat) (q : Nat → ClassId) (kS : Nat → Int64) (vS : Nat → Int64) (bS : Nat → Int32) (llS : Int32) (lvS : Int32) (lhS : Int32) (mvS : Int64) (post : (Nat → Int64) → (Nat → Int64) → (Int32) → (Int32) → (Int64) → Prop) (hw : wp_S_halve kS vS lvS lhS mvS post) (sz : Nat) : Met l yX0_halve wsX0_halve ({ frames := 3, cells := 0, slots := 0, locals := 67 }) (qP D vwCl (tS q) (wS g q kS vS bS llS lvS lhS mvS) sz [.ref (g 0)]) (va_Qv (fun (u : (Nat → Int64) × (Nat → Int64) × (Int32) × (Int32) × (Int64)) => post u.1 u.2.1 u.2.2.1 u.2.2.2.1 u.2.2.2.2) (qB D vwCl (tS q) (fun u : (Nat → Int64) × (Nat → Int64) × (Int32) × (Int32) × (Int64) => (wS g q u.1 u.2.1 bS llS u.2.2.1 u.2.2.2.1 u.2.2.2.2)) (va_A (wS g q kS vS bS llS lvS lhS mvS) sz)) (va_A (wS g q kS vS bS llS lvS lhS mvS) sz)) 0 0 (va_A (wS g q kS vS bS llS lvS lhS mvS) sz) := by
  refine q_enter (cc := cX0_halve) (maxL := 2) (ret := none) (fun A => va_Qv (fun (u : (Nat → Int64) × (Nat → Int64) × (Int32) × (Int32) × (Int64)) => post u.1 u.2.1 u.2.2.1 u.2.2.2.1 u.2.2.2.2) (qB D vwCl (tS q) (fun u : (Nat → Int64) × (Nat → Int64) × (Int32) × (Int32) × (Int64) => (wS g q u.1 u.2.1 bS llS u.2.2.1 u.2.2.2.1 u.2.2.2.2)) A) A) (by decide +kernel) rfl (Nat.le_of_ble_eq_true rfl) ?_
  intro p e s m below meth c A ls hx hb hr hml hown hts hlocks hname hP hK hD hA hl
  replace hown : s.vm.findClass RX0 = some m.cls := hown
  replace hl : lv_has ls 2 [(0, .ref (g 0))] := hl
  have hS : va_S A s.heap s.heap [] := va_S.rf
  have hf_levels := hts _ (List.mem_cons_of_mem _ tfl_X0_32)
  unfold wp_S_halve at hw
  refine lv_aload_n hx hb dX0_halve_0 rfl (lv_at hl 0 rfl) ?_
  refine lv_iconst (v := 0) hx hb dX0_halve_1 (by decide) ?_
  refine lv_aload_n hx hb dX0_halve_2 rfl (lv_at hl 0 rfl) ?_
  refine q_callVi (As := []) (rest := [.int 0, .ref (g 0)]) (wr := []) [0, 1, 2, 3] [] ⟨hx, hb, hml, hown, hts⟩ (c_S_cells l D g q kS vS bS llS lvS lhS mvS  _ hw _) (cwV 0 hts gX0_halve_X0_cells rfl rfl rfl (by decide +kernel) ⟨Nat.le_of_ble_eq_true rfl, Nat.le_of_ble_eq_true rfl⟩) (va_recv hK hP (ci := 0) (q0 := 0) rfl rfl) hK hP hD hS hA rfl rfl rfl (by decide) (by decide) (by decide) rfl hl.1 rfl (Nat.le_of_ble_eq_true rfl) dX0_halve_3 ⟨Nat.zero_le _, Nat.zero_le _⟩ (fun r_1 u H locs hw hP hD hS => ?_)
  try dsimp only at hw
  replace hP : va_P D vwCl (wS g q kS vS bS llS lvS lhS mvS) H := hP
  replace hD : va_D A (wS g q kS vS bS llS lvS lhS mvS) := hD
  refine q_callVi (As := [.int 0, .int r_1]) (rest := []) (wr := []) [0, 1, 2, 3] [] ⟨hx, hb, hml, hown, hts⟩ (c_S_pack l D g q kS vS bS llS lvS lhS mvS 0 r_1 _ hw _) (cwV 2 hts gX0_halve_X0_pack rfl rfl rfl (by decide +kernel) ⟨Nat.le_of_ble_eq_true rfl, Nat.le_of_ble_eq_true rfl⟩) (va_recv hK hP (ci := 0) (q0 := 0) rfl rfl) hK hP hD hS hA rfl rfl rfl (by decide) (by decide) (by decide) rfl hl.1 rfl (Nat.le_of_ble_eq_true rfl) dX0_halve_6 ⟨Nat.zero_le _, Nat.zero_le _⟩ (fun r_2 u H locs hw hP hD hS => ?_)
  obtain ⟨kS_3, vS_4⟩ := u
  try dsimp only at hw
  replace hP : va_P D vwCl (wS g q kS_3 vS_4 bS llS lvS lhS mvS) H := hP
  replace hD : va_D A (wS g q kS_3 vS_4 bS llS lvS lhS mvS) := hD
  refine lv_istore_n (lv' := [(1, .int r_2), (0, .ref (g 0))]) hx hb dX0_halve_9 rfl hl (by decide) rfl (fun ls hl => ?_)
  refine lv_aload_n hx hb dX0_halve_10 rfl (lv_at hl 1 rfl) ?_
  refine lv_dup hx hb dX0_halve_11 rfl ?_
  refine va_get (D := D) (ci := 0) (v := .int lvS) (C := RX0) (T := TX0) (N := 7) hx hb hts (fun w h => List.mem_cons_of_mem _ (iX0 w h)) hown hK hP 0 rfl rfl 4 (by decide) hf_levels (fun _ h9 => h9) rfl dX0_halve_12 ?_
  refine lv_iconst (v := 1) hx hb dX0_halve_15 (by decide) ?_
  refine lv_isub hx hb dX0_halve_16 ?_
  refine va_put (D := D) (ci := 0) (v := .int (lvS - 1)) (ty := .int) (C := RX0) (T := TX0) (N := 7) hx hb hts (fun w h => List.mem_cons_of_mem _ (iX0 w h)) tyX0 tyX0_ok nmX0 hown hK hP hD hS 0 rfl rfl 4 (by decide) hf_levels (fun _ h9 => h9) rfl (by decide +kernel) rfl rfl (Nat.le_of_ble_eq_true rfl) dX0_halve_17 (fun H locs hP hD hS => ?_)
  replace hP : va_P D vwCl (wS g q kS_3 vS_4 bS llS (lvS - 1) lhS mvS) H := hP
  replace hD : va_D A (wS g q kS_3 vS_4 bS llS (lvS - 1) lhS mvS) := hD
  refine lv_aload_n hx hb dX0_halve_20 rfl (lv_at hl 1 rfl) ?_
  refine lv_iconst (v := 0) hx hb dX0_halve_21 (by decide) ?_
  refine lv_aload_n hx hb dX0_halve_22 rfl (lv_at hl 1 rfl) ?_
  refine va_get (D := D) (ci := 0) (v := .int (lvS - 1)) (C := RX0) (T := TX0) (N := 7) hx hb hts (fun w h => List.mem_cons_of_mem _ (iX0 w h)) hown hK hP 0 rfl rfl 4 (by decide) hf_levels (fun _ h9 => h9) rfl dX0_halve_23 ?_
  refine lv_iload_n hx hb dX0_halve_26 rfl (lv_at hl 0 rfl) ?_
  refine q_callVv (As := [.int 0, .int (lvS - 1), .int r_2]) (rest := []) (wr := []) [0, 1, 2, 3] [] ⟨hx, hb, hml, hown, hts⟩ (c_S_spreadPacked l D g q kS_3 vS_4 bS llS (lvS - 1) lhS mvS 0 (lvS - 1) r_2 _ hw _) (cwV 3 hts gX0_halve_X0_spreadPacked rfl rfl rfl (by decide +kernel) ⟨Nat.le_of_ble_eq_true rfl, Nat.le_of_ble_eq_true rfl⟩) (va_recv hK hP (ci := 0) (q0 := 0) rfl rfl) hK hP hD hS hA rfl rfl rfl (by decide) (by decide) (by decide) rfl hl.1 rfl (Nat.le_of_ble_eq_true rfl) dX0_halve_27 ⟨Nat.zero_le _, Nat.zero_le _⟩ (fun u H locs hw hP hD hS => ?_)
  obtain ⟨kS_5, vS_6, lhS_7, mvS_8⟩ := u
  try dsimp only at hw
  replace hP : va_P D vwCl (wS g q kS_5 vS_6 bS llS (lvS - 1) lhS_7 mvS_8) H := hP
  replace hD : va_D A (wS g q kS_5 vS_6 bS llS (lvS - 1) lhS_7 mvS_8) := hD
  exact q_vret (kS_5, vS_6, (lvS - 1), lhS_7, mvS_8) hx hb hr hlocks hK dX0_halve_30 hS hP hD hw
set_option maxHeartbeats 4000000 in
set_option maxRecDepth 100000 in
theorem c_S_takeOut (l : Launch) (D : va_G) (g : Nat → Nat) (q : Nat → ClassId) (kS : Nat → Int64) (vS : Nat → Int64) (bS : Nat → Int32) (llS : Int32) (lvS : Int32) (lhS : Int32) (mvS : Int64) (a1 : Int32) (post : (Nat → Int64) → (Nat → Int64) → (Int32) → (Int32) → (Int64) → Prop) (hw : wp_S_takeOut kS vS llS lvS lhS mvS a1 post) (sz : Nat) : Met l yX0_takeOut wsX0_takeOut ({ frames := 4, cells := 0, slots := 0, locals := 88 }) (qP D vwCl (tS q) (wS g q kS vS bS llS lvS lhS mvS) sz [.ref (g 0), .int a1]) (va_Qv (fun (u : (Nat → Int64) × (Nat → Int64) × (Int32) × (Int32) × (Int64)) => post u.1 u.2.1 u.2.2.1 u.2.2.2.1 u.2.2.2.2) (qB D vwCl (tS q) (fun u : (Nat → Int64) × (Nat → Int64) × (Int32) × (Int32) × (Int64) => (wS g q u.1 u.2.1 bS llS u.2.2.1 u.2.2.2.1 u.2.2.2.2)) (va_A (wS g q kS vS bS llS lvS lhS mvS) sz)) (va_A (wS g q kS vS bS llS lvS lhS mvS) sz)) 0 0 (va_A (wS g q kS vS bS llS lvS lhS mvS) sz) := by
  refine q_enter (cc := cX0_takeOut) (maxL := 5) (ret := none) (fun A => va_Qv (fun (u : (Nat → Int64) × (Nat → Int64) × (Int32) × (Int32) × (Int64)) => post u.1 u.2.1 u.2.2.1 u.2.2.2.1 u.2.2.2.2) (qB D vwCl (tS q) (fun u : (Nat → Int64) × (Nat → Int64) × (Int32) × (Int32) × (Int64) => (wS g q u.1 u.2.1 bS llS u.2.2.1 u.2.2.2.1 u.2.2.2.2)) A) A) (by decide +kernel) rfl (Nat.le_of_ble_eq_true rfl) ?_
  intro p e s m below meth c A ls hx hb hr hml hown hts hlocks hname hP hK hD hA hl
  replace hown : s.vm.findClass RX0 = some m.cls := hown
  replace hl : lv_has ls 5 [(0, .ref (g 0)), (1, .int a1)] := hl
  have hS : va_S A s.heap s.heap [] := va_S.rf
  have hf_leastLevels := hts _ (List.mem_cons_of_mem _ tfl_X0_28)
  have hf_levels := hts _ (List.mem_cons_of_mem _ tfl_X0_32)
  unfold wp_S_takeOut at hw
  refine lv_aload_n hx hb dX0_takeOut_0 rfl (lv_at hl 0 rfl) ?_
  refine lv_iload_n hx hb dX0_takeOut_1 rfl (lv_at hl 1 rfl) ?_
  refine q_callVv (As := [.int a1]) (rest := []) (wr := []) [0, 1, 2, 3] [] ⟨hx, hb, hml, hown, hts⟩ (c_S_clear l D g q kS vS bS llS lvS lhS mvS a1 _ hw _) (cwV 1 hts gX0_takeOut_X0_clear rfl rfl rfl (by decide +kernel) ⟨Nat.le_of_ble_eq_true rfl, Nat.le_of_ble_eq_true rfl⟩) (va_recv hK hP (ci := 0) (q0 := 0) rfl rfl) hK hP hD hS hA rfl rfl rfl (by decide) (by decide) (by decide) rfl hl.1 rfl (Nat.le_of_ble_eq_true rfl) dX0_takeOut_2 ⟨Nat.zero_le _, Nat.zero_le _⟩ (fun u H locs hw hP hD hS => ?_)
  obtain ⟨kS_1, vS_2⟩ := u
  try dsimp only at hw
  replace hP : va_P D vwCl (wS g q kS_1 vS_2 bS llS lvS lhS mvS) H := hP
  replace hD : va_D A (wS g q kS_1 vS_2 bS llS lvS lhS mvS) := hD
  refine lv_iload_n hx hb dX0_takeOut_5 rfl (lv_at hl 1 rfl) ?_
  refine lv_bipush (v := 8) hx hb dX0_takeOut_6 (by decide) ?_
  refine lv_idiv hx hb dX0_takeOut_8 (by decide) ?_
  refine lv_istore_n (lv' := [(2, .int (a1 / 8)), (0, .ref (g 0)), (1, .int a1)]) hx hb dX0_takeOut_9 rfl hl (by decide) rfl (fun ls hl => ?_)
  refine lv_aload_n hx hb dX0_takeOut_10 rfl (lv_at hl 1 rfl) ?_
  refine lv_iload_n hx hb dX0_takeOut_11 rfl (lv_at hl 0 rfl) ?_
  refine q_callVi (As := [.int (a1 / 8)]) (rest := []) (wr := []) [0, 1, 2, 3] [] ⟨hx, hb, hml, hown, hts⟩ (c_S_heightWithEnough l D g q kS_1 vS_2 bS llS lvS lhS mvS (a1 / 8) _ hw _) (cwV 1 hts gX0_takeOut_X0_heightWithEnough rfl rfl rfl (by decide +kernel) ⟨Nat.le_of_ble_eq_true rfl, Nat.le_of_ble_eq_true rfl⟩) (va_recv hK hP (ci := 0) (q0 := 0) rfl rfl) hK hP hD hS hA rfl rfl rfl (by decide) (by decide) (by decide) rfl hl.1 rfl (Nat.le_of_ble_eq_true rfl) dX0_takeOut_12 ⟨Nat.zero_le _, Nat.zero_le _⟩ (fun r_3 u H locs hw hP hD hS => ?_)
  try dsimp only at hw
  replace hP : va_P D vwCl (wS g q kS_1 vS_2 bS llS lvS lhS mvS) H := hP
  replace hD : va_D A (wS g q kS_1 vS_2 bS llS lvS lhS mvS) := hD
  refine lv_istore_n (lv' := [(3, .int r_3), (2, .int (a1 / 8)), (0, .ref (g 0)), (1, .int a1)]) hx hb dX0_takeOut_15 rfl hl (by decide) rfl (fun ls hl => ?_)
  refine lv_iload_n hx hb dX0_takeOut_16 rfl (lv_at hl 0 rfl) ?_
  refine lv_iconst (v := (-1)) hx hb dX0_takeOut_17 (by decide) ?_
  refine lv_icmp_eq (tgt := 48) hx hb dX0_takeOut_18 (by decide) (fun c_4 => ?_) (fun c_4 => ?_)
  · replace hw := hw.1 c_4
    refine lv_aload_n hx hb dX0_takeOut_48 rfl (lv_at hl 2 rfl) ?_
    refine va_get (D := D) (ci := 0) (v := .int lvS) (C := RX0) (T := TX0) (N := 7) hx hb hts (fun w h => List.mem_cons_of_mem _ (iX0 w h)) hown hK hP 0 rfl rfl 4 (by decide) hf_levels (fun _ h9 => h9) rfl dX0_takeOut_49 ?_
    refine lv_aload_n hx hb dX0_takeOut_52 rfl (lv_at hl 2 rfl) ?_
    refine va_get (D := D) (ci := 0) (v := .int llS) (C := RX0) (T := TX0) (N := 7) hx hb hts (fun w h => List.mem_cons_of_mem _ (iX0 w h)) hown hK hP 0 rfl rfl 3 (by decide) hf_leastLevels (fun _ h9 => h9) rfl dX0_takeOut_53 ?_
    refine lv_icmp_le (tgt := 63) hx hb dX0_takeOut_56 (by decide) (fun c_5 => ?_) (fun c_5 => ?_)
    · replace hw := hw.1 c_5
      exact q_vret (kS_1, vS_2, lvS, lhS, mvS) hx hb hr hlocks hK dX0_takeOut_63 hS hP hD hw
    · replace hw := hw.2 c_5
      refine lv_aload_n hx hb dX0_takeOut_59 rfl (lv_at hl 2 rfl) ?_
      refine q_callVv (As := []) (rest := []) (wr := []) [0, 1, 2, 3] [] ⟨hx, hb, hml, hown, hts⟩ (c_S_halve l D g q kS_1 vS_2 bS llS lvS lhS mvS  _ hw _) (cwV 0 hts gX0_takeOut_X0_halve rfl rfl rfl (by decide +kernel) ⟨Nat.le_of_ble_eq_true rfl, Nat.le_of_ble_eq_true rfl⟩) (va_recv hK hP (ci := 0) (q0 := 0) rfl rfl) hK hP hD hS hA rfl rfl rfl (by decide) (by decide) (by decide) rfl hl.1 rfl (Nat.le_of_ble_eq_true rfl) dX0_takeOut_60 ⟨Nat.zero_le _, Nat.zero_le _⟩ (fun u H locs hw hP hD hS => ?_)
      obtain ⟨kS_6, vS_7, lvS_8, lhS_9, mvS_10⟩ := u
      try dsimp only at hw
      replace hP : va_P D vwCl (wS g q kS_6 vS_7 bS llS lvS_8 lhS_9 mvS_10) H := hP
      replace hD : va_D A (wS g q kS_6 vS_7 bS llS lvS_8 lhS_9 mvS_10) := hD
      exact q_vret (kS_6, vS_7, lvS_8, lhS_9, mvS_10) hx hb hr hlocks hK dX0_takeOut_63 hS hP hD hw
  · replace hw := hw.2 c_4
    refine lv_iload_n hx hb dX0_takeOut_21 rfl (lv_at hl 1 rfl) ?_
    refine lv_iload_n hx hb dX0_takeOut_22 rfl (lv_at hl 0 rfl) ?_
    refine q_callSi (As := [.int (a1 / 8), .int r_3]) (rest := []) (wr := (wS g q kS_1 vS_2 bS llS lvS lhS mvS)) [] [0, 1, 2, 3] ⟨hx, hb, hml, hown, hts⟩ (c_S_firstCell l D (a1 / 8) r_3 _ hw _) (va_cwS 2 hts gX0_takeOut_X0_firstCell rfl rfl rfl (by decide +kernel) ⟨Nat.le_of_ble_eq_true rfl, Nat.le_of_ble_eq_true rfl⟩) (hK.sub (tys' := []) [] rfl) hP hD hS hA rfl rfl rfl (by decide) (by decide) (by decide) rfl hl.1 rfl (Nat.le_of_ble_eq_true rfl) dX0_takeOut_23 ⟨Nat.zero_le _, Nat.zero_le _⟩ (fun r_11 u H locs hw hP hD hS => ?_)
    try dsimp only at hw
    replace hP : va_P D vwCl (wS g q kS_1 vS_2 bS llS lvS lhS mvS) H := hP
    replace hD : va_D A (wS g q kS_1 vS_2 bS llS lvS lhS mvS) := hD
    refine lv_istore (lv' := [(4, .int r_11), (3, .int r_3), (2, .int (a1 / 8)), (0, .ref (g 0)), (1, .int a1)]) hx hb dX0_takeOut_26 hl (by decide) rfl (fun ls hl => ?_)
    refine lv_aload_n hx hb dX0_takeOut_28 rfl (lv_at hl 3 rfl) ?_
    refine lv_iload hx hb dX0_takeOut_29 (lv_at hl 0 rfl) ?_
    refine lv_iload_n hx hb dX0_takeOut_31 rfl (lv_at hl 1 rfl) ?_
    refine lv_aload_n hx hb dX0_takeOut_32 rfl (lv_at hl 3 rfl) ?_
    refine lv_iload hx hb dX0_takeOut_33 (lv_at hl 0 rfl) ?_
    refine lv_iload_n hx hb dX0_takeOut_35 rfl (lv_at hl 1 rfl) ?_
    refine q_callSi (As := [.int r_3]) (rest := [.int r_11, .ref (g 0), .int r_3, .int r_11, .ref (g 0)]) (wr := (wS g q kS_1 vS_2 bS llS lvS lhS mvS)) [] [0, 1, 2, 3] ⟨hx, hb, hml, hown, hts⟩ (c_S_windowCells l D r_3 _ hw _) (va_cwS 1 hts gX0_takeOut_X0_windowCells rfl rfl rfl (by decide +kernel) ⟨Nat.le_of_ble_eq_true rfl, Nat.le_of_ble_eq_true rfl⟩) (hK.sub (tys' := []) [] rfl) hP hD hS hA rfl rfl rfl (by decide) (by decide) (by decide) rfl hl.1 rfl (Nat.le_of_ble_eq_true rfl) dX0_takeOut_36 ⟨Nat.zero_le _, Nat.zero_le _⟩ (fun r_12 u H locs hw hP hD hS => ?_)
    try dsimp only at hw
    replace hP : va_P D vwCl (wS g q kS_1 vS_2 bS llS lvS lhS mvS) H := hP
    replace hD : va_D A (wS g q kS_1 vS_2 bS llS lvS lhS mvS) := hD
    refine q_callVi (As := [.int r_11, .int r_12]) (rest := [.int r_3, .int r_11, .ref (g 0)]) (wr := []) [0, 1, 2, 3] [] ⟨hx, hb, hml, hown, hts⟩ (c_S_pack l D g q kS_1 vS_2 bS llS lvS lhS mvS r_11 r_12 _ hw _) (cwV 2 hts gX0_takeOut_X0_pack rfl rfl rfl (by decide +kernel) ⟨Nat.le_of_ble_eq_true rfl, Nat.le_of_ble_eq_true rfl⟩) (va_recv hK hP (ci := 0) (q0 := 0) rfl rfl) hK hP hD hS hA rfl rfl rfl (by decide) (by decide) (by decide) rfl hl.1 rfl (Nat.le_of_ble_eq_true rfl) dX0_takeOut_39 ⟨Nat.zero_le _, Nat.zero_le _⟩ (fun r_13 u H locs hw hP hD hS => ?_)
    obtain ⟨kS_14, vS_15⟩ := u
    try dsimp only at hw
    replace hP : va_P D vwCl (wS g q kS_14 vS_15 bS llS lvS lhS mvS) H := hP
    replace hD : va_D A (wS g q kS_14 vS_15 bS llS lvS lhS mvS) := hD
    refine q_callVv (As := [.int r_11, .int r_3, .int r_13]) (rest := []) (wr := []) [0, 1, 2, 3] [] ⟨hx, hb, hml, hown, hts⟩ (c_S_spreadPacked l D g q kS_14 vS_15 bS llS lvS lhS mvS r_11 r_3 r_13 _ hw _) (cwV 3 hts gX0_takeOut_X0_spreadPacked rfl rfl rfl (by decide +kernel) ⟨Nat.le_of_ble_eq_true rfl, Nat.le_of_ble_eq_true rfl⟩) (va_recv hK hP (ci := 0) (q0 := 0) rfl rfl) hK hP hD hS hA rfl rfl rfl (by decide) (by decide) (by decide) rfl hl.1 rfl (Nat.le_of_ble_eq_true rfl) dX0_takeOut_42 ⟨Nat.zero_le _, Nat.zero_le _⟩ (fun u H locs hw hP hD hS => ?_)
    obtain ⟨kS_16, vS_17, lhS_18, mvS_19⟩ := u
    try dsimp only at hw
    replace hP : va_P D vwCl (wS g q kS_16 vS_17 bS llS lvS lhS_18 mvS_19) H := hP
    replace hD : va_D A (wS g q kS_16 vS_17 bS llS lvS lhS_18 mvS_19) := hD
    refine lv_goto (tgt := 63) hx hb dX0_takeOut_45 (by decide) ?_
    exact q_vret (kS_16, vS_17, lvS, lhS_18, mvS_19) hx hb hr hlocks hK dX0_takeOut_63 hS hP hD hw
set_option maxHeartbeats 4000000 in
set_option maxRecDepth 100000 in
theorem c_S_remove (l : Launch) (D : va_G) (g : Nat → Nat) (q : Nat → ClassId) (kS : Nat → Int64) (vS : Nat → Int64) (bS : Nat → Int32) (llS : Int32) (lvS : Int32) (lhS : Int32) (mvS : Int64) (a1 : Int64) (post : Int32 → (Nat → Int64) → (Nat → Int64) → (Int32) → (Int32) → (Int64) → Prop) (hw : wp_S_remove kS vS llS lvS lhS mvS a1 post) (sz : Nat) : Met l yX0_remove wsX0_remove ({ frames := 5, cells := 0, slots := 0, locals := 120 }) (qP D vwCl (tS q) (wS g q kS vS bS llS lvS lhS mvS) sz [.ref (g 0), .long a1]) (va_Qi (fun r (u : (Nat → Int64) × (Nat → Int64) × (Int32) × (Int32) × (Int64)) => post r u.1 u.2.1 u.2.2.1 u.2.2.2.1 u.2.2.2.2) (qB D vwCl (tS q) (fun u : (Nat → Int64) × (Nat → Int64) × (Int32) × (Int32) × (Int64) => (wS g q u.1 u.2.1 bS llS u.2.2.1 u.2.2.2.1 u.2.2.2.2)) (va_A (wS g q kS vS bS llS lvS lhS mvS) sz)) (va_A (wS g q kS vS bS llS lvS lhS mvS) sz)) 0 0 (va_A (wS g q kS vS bS llS lvS lhS mvS) sz) := by
  refine q_enter (cc := cX0_remove) (maxL := 4) (ret := (some .boolean)) (fun A => va_Qi (fun r (u : (Nat → Int64) × (Nat → Int64) × (Int32) × (Int32) × (Int64)) => post r u.1 u.2.1 u.2.2.1 u.2.2.2.1 u.2.2.2.2) (qB D vwCl (tS q) (fun u : (Nat → Int64) × (Nat → Int64) × (Int32) × (Int32) × (Int64) => (wS g q u.1 u.2.1 bS llS u.2.2.1 u.2.2.2.1 u.2.2.2.2)) A) A) (by decide +kernel) rfl (Nat.le_of_ble_eq_true rfl) ?_
  intro p e s m below meth c A ls hx hb hr hml hown hts hlocks hname hP hK hD hA hl
  replace hown : s.vm.findClass RX0 = some m.cls := hown
  replace hl : lv_has ls 4 [(0, .ref (g 0)), (1, .long a1)] := hl
  have hS : va_S A s.heap s.heap [] := va_S.rf
  unfold wp_S_remove at hw
  refine lv_aload_n hx hb dX0_remove_0 rfl (lv_at hl 0 rfl) ?_
  refine lv_lload_n hx hb dX0_remove_1 rfl (lv_at hl 1 rfl) ?_
  refine q_callVi (As := [.long a1]) (rest := []) (wr := []) [0, 1, 2, 3] [] ⟨hx, hb, hml, hown, hts⟩ (c_S_cellOf l D g q kS vS bS llS lvS lhS mvS a1 _ hw _) (cwV 1 hts gX0_remove_X0_cellOf rfl rfl rfl (by decide +kernel) ⟨Nat.le_of_ble_eq_true rfl, Nat.le_of_ble_eq_true rfl⟩) (va_recv hK hP (ci := 0) (q0 := 0) rfl rfl) hK hP hD hS hA rfl rfl rfl (by decide) (by decide) (by decide) rfl hl.1 rfl (Nat.le_of_ble_eq_true rfl) dX0_remove_2 ⟨Nat.zero_le _, Nat.zero_le _⟩ (fun r_1 u H locs hw hP hD hS => ?_)
  try dsimp only at hw
  replace hP : va_P D vwCl (wS g q kS vS bS llS lvS lhS mvS) H := hP
  replace hD : va_D A (wS g q kS vS bS llS lvS lhS mvS) := hD
  refine lv_istore_n (lv' := [(3, .int r_1), (0, .ref (g 0)), (1, .long a1)]) hx hb dX0_remove_5 rfl hl (by decide) rfl (fun ls hl => ?_)
  refine lv_iload_n hx hb dX0_remove_6 rfl (lv_at hl 0 rfl) ?_
  refine lv_iconst (v := (-1)) hx hb dX0_remove_7 (by decide) ?_
  refine lv_icmp_ne (tgt := 13) hx hb dX0_remove_8 (by decide) (fun c_2 => ?_) (fun c_2 => ?_)
  · replace hw := hw.2 c_2
    refine lv_aload_n hx hb dX0_remove_13 rfl (lv_at hl 1 rfl) ?_
    refine lv_iload_n hx hb dX0_remove_14 rfl (lv_at hl 0 rfl) ?_
    refine q_callVv (As := [.int r_1]) (rest := []) (wr := []) [0, 1, 2, 3] [] ⟨hx, hb, hml, hown, hts⟩ (c_S_takeOut l D g q kS vS bS llS lvS lhS mvS r_1 _ hw _) (cwV 1 hts gX0_remove_X0_takeOut rfl rfl rfl (by decide +kernel) ⟨Nat.le_of_ble_eq_true rfl, Nat.le_of_ble_eq_true rfl⟩) (va_recv hK hP (ci := 0) (q0 := 0) rfl rfl) hK hP hD hS hA rfl rfl rfl (by decide) (by decide) (by decide) rfl hl.1 rfl (Nat.le_of_ble_eq_true rfl) dX0_remove_15 ⟨Nat.zero_le _, Nat.zero_le _⟩ (fun u H locs hw hP hD hS => ?_)
    obtain ⟨kS_3, vS_4, lvS_5, lhS_6, mvS_7⟩ := u
    try dsimp only at hw
    replace hP : va_P D vwCl (wS g q kS_3 vS_4 bS llS lvS_5 lhS_6 mvS_7) H := hP
    replace hD : va_D A (wS g q kS_3 vS_4 bS llS lvS_5 lhS_6 mvS_7) := hD
    refine lv_iconst (v := 1) hx hb dX0_remove_18 (by decide) ?_
    exact q_zret (kS_3, vS_4, lvS_5, lhS_6, mvS_7) hx hb hr (by decide) hlocks hK dX0_remove_19 hS hP hD hw
  · replace hw := hw.1 c_2
    refine lv_iconst (v := 0) hx hb dX0_remove_11 (by decide) ?_
    exact q_zret (kS, vS, lvS, lhS, mvS) hx hb hr (by decide) hlocks hK dX0_remove_12 hS hP hD hw
set_option maxHeartbeats 4000000 in
set_option maxRecDepth 100000 in
theorem c_S_drop (l : Launch) (D : va_G) (g : Nat → Nat) (q : Nat → ClassId) (kS : Nat → Int64) (vS : Nat → Int64) (bS : Nat → Int32) (llS : Int32) (lvS : Int32) (lhS : Int32) (mvS : Int64) (a1 : Int64) (a3 : Int32) (post : Int32 → (Nat → Int64) → (Nat → Int64) → (Int32) → (Int32) → (Int64) → Prop) (hw : wp_S_drop kS vS llS lvS lhS mvS a1 a3 post) (sz : Nat) : Met l yX0_drop wsX0_drop ({ frames := 5, cells := 0, slots := 0, locals := 112 }) (qP D vwCl (tS q) (wS g q kS vS bS llS lvS lhS mvS) sz [.ref (g 0), .long a1, .int a3]) (va_Qi (fun r (u : (Nat → Int64) × (Nat → Int64) × (Int32) × (Int32) × (Int64)) => post r u.1 u.2.1 u.2.2.1 u.2.2.2.1 u.2.2.2.2) (qB D vwCl (tS q) (fun u : (Nat → Int64) × (Nat → Int64) × (Int32) × (Int32) × (Int64) => (wS g q u.1 u.2.1 bS llS u.2.2.1 u.2.2.2.1 u.2.2.2.2)) (va_A (wS g q kS vS bS llS lvS lhS mvS) sz)) (va_A (wS g q kS vS bS llS lvS lhS mvS) sz)) 0 0 (va_A (wS g q kS vS bS llS lvS lhS mvS) sz) := by
  refine q_enter (cc := cX0_drop) (maxL := 6) (ret := (some .int)) (fun A => va_Qi (fun r (u : (Nat → Int64) × (Nat → Int64) × (Int32) × (Int32) × (Int64)) => post r u.1 u.2.1 u.2.2.1 u.2.2.2.1 u.2.2.2.2) (qB D vwCl (tS q) (fun u : (Nat → Int64) × (Nat → Int64) × (Int32) × (Int32) × (Int64) => (wS g q u.1 u.2.1 bS llS u.2.2.1 u.2.2.2.1 u.2.2.2.2)) A) A) (by decide +kernel) rfl (Nat.le_of_ble_eq_true rfl) ?_
  intro p e s m below meth c A ls hx hb hr hml hown hts hlocks hname hP hK hD hA hl
  replace hown : s.vm.findClass RX0 = some m.cls := hown
  replace hl : lv_has ls 6 [(0, .ref (g 0)), (1, .long a1), (3, .int a3)] := hl
  have hS : va_S A s.heap s.heap [] := va_S.rf
  have L15 : ∀ (x1 : Int64) (x3 : Int32) (n : Nat) (x4 : Int32) (kS : Nat → Int64) (vS : Nat → Int64) (lvS : Int32) (lhS : Int32) (mvS : Int64), wp_S_drop_L15 llS x1 x3 post n x4 kS vS lvS lhS mvS → ∀ (H : Heap) (locs : List Loc) (ls : Array Slot), va_P D vwCl (wS g q kS vS bS llS lvS lhS mvS) H → va_D A (wS g q kS vS bS llS lvS lhS mvS) → va_S A s.heap H locs → lv_has ls 6 [(0, .ref (g 0)), (1, .long x1), (3, .int x3), (4, .int x4)] → W p l e { frames := 5, cells := 0, slots := 0, locals := 112 } s m ([.ref (g 0), .long a1, .int a3] : List Value).toArray below meth c H locs 0 0 (MQ below (va_Qi (fun r (u : (Nat → Int64) × (Nat → Int64) × (Int32) × (Int32) × (Int64)) => post r u.1 u.2.1 u.2.2.1 u.2.2.2.1 u.2.2.2.2) (qB D vwCl (tS q) (fun u : (Nat → Int64) × (Nat → Int64) × (Int32) × (Int32) × (Int64) => (wS g q u.1 u.2.1 bS llS u.2.2.1 u.2.2.2.1 u.2.2.2.2)) A) A) ([.ref (g 0), .long a1, .int a3] : List Value).toArray s 0 0 A) (F0 m 15 ls []) := by
    intro x1 x3 n
    induction n with
    | zero => intro x4 kS vS lvS lhS mvS hw; exact False.elim (show False from hw)
    | succ n ih =>
      intro x4 kS vS lvS lhS mvS hw H locs ls hP hD hS hl
      rw [wp_S_drop_L15] at hw
      refine lv_iload hx hb dX0_drop_15 (lv_at hl 3 rfl) ?_
      refine lv_iload_n hx hb dX0_drop_17 rfl (lv_at hl 2 rfl) ?_
      refine lv_icmp_ge (tgt := 49) hx hb dX0_drop_18 (by decide) (fun c_3 => ?_) (fun c_3 => ?_)
      · replace hw := hw.1 c_3
        refine lv_iload_n hx hb dX0_drop_49 rfl (lv_at hl 2 rfl) ?_
        exact q_iret (kS, vS, lvS, lhS, mvS) hx hb hr hlocks hK dX0_drop_50 hS hP hD hw
      · replace hw := hw.2 c_3
        refine lv_aload_n hx hb dX0_drop_21 rfl (lv_at hl 0 rfl) ?_
        refine lv_lload_n hx hb dX0_drop_22 rfl (lv_at hl 1 rfl) ?_
        refine q_callVi (As := [.long x1]) (rest := []) (wr := []) [0, 1, 2, 3] [] ⟨hx, hb, hml, hown, hts⟩ (c_S_cellNotBelow l D g q kS vS bS llS lvS lhS mvS x1 _ hw _) (cwV 1 hts gX0_drop_X0_cellNotBelow rfl rfl rfl (by decide +kernel) ⟨Nat.le_of_ble_eq_true rfl, Nat.le_of_ble_eq_true rfl⟩) (va_recv hK hP (ci := 0) (q0 := 0) rfl rfl) hK hP hD hS hA rfl rfl rfl (by decide) (by decide) (by decide) rfl hl.1 rfl (Nat.le_of_ble_eq_true rfl) dX0_drop_23 ⟨Nat.zero_le _, Nat.zero_le _⟩ (fun r_4 u H locs hw hP hD hS => ?_)
        try dsimp only at hw
        replace hP : va_P D vwCl (wS g q kS vS bS llS lvS lhS mvS) H := hP
        replace hD : va_D A (wS g q kS vS bS llS lvS lhS mvS) := hD
        refine lv_istore (lv' := [(5, .int r_4), (0, .ref (g 0)), (1, .long x1), (3, .int x3), (4, .int x4)]) hx hb dX0_drop_26 hl (by decide) rfl (fun ls hl => ?_)
        refine lv_iload hx hb dX0_drop_28 (lv_at hl 0 rfl) ?_
        refine lv_iconst (v := (-1)) hx hb dX0_drop_30 (by decide) ?_
        refine lv_icmp_ne (tgt := 37) hx hb dX0_drop_31 (by decide) (fun c_5 => ?_) (fun c_5 => ?_)
        · replace hw := hw.2 c_5
          refine lv_aload_n hx hb dX0_drop_37 rfl (lv_at hl 1 rfl) ?_
          refine lv_iload hx hb dX0_drop_38 (lv_at hl 0 rfl) ?_
          refine q_callVv (As := [.int r_4]) (rest := []) (wr := []) [0, 1, 2, 3] [] ⟨hx, hb, hml, hown, hts⟩ (c_S_takeOut l D g q kS vS bS llS lvS lhS mvS r_4 _ hw _) (cwV 1 hts gX0_drop_X0_takeOut rfl rfl rfl (by decide +kernel) ⟨Nat.le_of_ble_eq_true rfl, Nat.le_of_ble_eq_true rfl⟩) (va_recv hK hP (ci := 0) (q0 := 0) rfl rfl) hK hP hD hS hA rfl rfl rfl (by decide) (by decide) (by decide) rfl hl.1 rfl (Nat.le_of_ble_eq_true rfl) dX0_drop_40 ⟨Nat.zero_le _, Nat.zero_le _⟩ (fun u H locs hw hP hD hS => ?_)
          obtain ⟨kS_6, vS_7, lvS_8, lhS_9, mvS_10⟩ := u
          try dsimp only at hw
          replace hP : va_P D vwCl (wS g q kS_6 vS_7 bS llS lvS_8 lhS_9 mvS_10) H := hP
          replace hD : va_D A (wS g q kS_6 vS_7 bS llS lvS_8 lhS_9 mvS_10) := hD
          refine lv_iinc (v := (x4 + 1)) (lv' := [(4, .int (x4 + 1)), (5, .int r_4), (0, .ref (g 0)), (1, .long x1), (3, .int x3)]) hx hb dX0_drop_43 hl (k := 4) rfl rfl (by decide) rfl (fun ls hl => ?_)
          refine lv_goto (tgt := 15) hx hb dX0_drop_46 (by decide) ?_
          exact ih (x4 + 1) kS_6 vS_7 lvS_8 lhS_9 mvS_10 hw _ _ ls hP hD hS (lv_sub hl [2, 3, 4, 0] rfl)
        · replace hw := hw.1 c_5
          refine lv_iload hx hb dX0_drop_34 (lv_at hl 4 rfl) ?_
          exact q_iret (kS, vS, lvS, lhS, mvS) hx hb hr hlocks hK dX0_drop_36 hS hP hD hw
  unfold wp_S_drop at hw
  refine lv_iload_n hx hb dX0_drop_0 rfl (lv_at hl 2 rfl) ?_
  refine lv_if_lt (tgt := 10) hx hb dX0_drop_1 (by decide) (fun c_1 => ?_) (fun c_1 => ?_)
  · replace hw := hw.1 c_1
    refine lv_iconst (v := (-1)) hx hb dX0_drop_10 (by decide) ?_
    exact q_iret (kS, vS, lvS, lhS, mvS) hx hb hr hlocks hK dX0_drop_11 hS hP hD hw
  · replace hw := hw.2 c_1
    refine lv_iload_n hx hb dX0_drop_4 rfl (lv_at hl 2 rfl) ?_
    refine lv_bipush (v := 64) hx hb dX0_drop_5 (by decide) ?_
    refine lv_icmp_le (tgt := 12) hx hb dX0_drop_7 (by decide) (fun c_2 => ?_) (fun c_2 => ?_)
    · replace hw := hw.1 c_2
      refine lv_iconst (v := 0) hx hb dX0_drop_12 (by decide) ?_
      refine lv_istore (lv' := [(4, .int 0), (0, .ref (g 0)), (1, .long a1), (3, .int a3)]) hx hb dX0_drop_13 hl (by decide) rfl (fun ls hl => ?_)
      obtain ⟨n0, hw⟩ := hw
      exact L15 a1 a3 n0 0 kS vS lvS lhS mvS hw _ _ ls hP hD hS (lv_sub hl [1, 2, 3, 0] rfl)
    · replace hw := hw.2 c_2
      refine lv_iconst (v := (-1)) hx hb dX0_drop_10 (by decide) ?_
      exact q_iret (kS, vS, lvS, lhS, mvS) hx hb hr hlocks hK dX0_drop_11 hS hP hD hw
set_option maxHeartbeats 4000000 in
set_option maxRecDepth 100000 in
theorem c_S_has (l : Launch) (D : va_G) (g : Nat → Nat) (q : Nat → ClassId) (kS : Nat → Int64) (vS : Nat → Int64) (bS : Nat → Int32) (llS : Int32) (lvS : Int32) (lhS : Int32) (mvS : Int64) (a1 : Int64) (post : Int32 → Prop) (hw : wp_S_has kS lvS a1 post) (sz : Nat) : Met l yX0_has wsX0_has ({ frames := 5, cells := 0, slots := 0, locals := 120 }) (qP D vwCl (tS q) (wS g q kS vS bS llS lvS lhS mvS) sz [.ref (g 0), .long a1]) (va_Qi (fun r (_ : Unit) => post r) (qB D vwCl (tS q) (fun _ : Unit => (wS g q kS vS bS llS lvS lhS mvS)) (va_A (wS g q kS vS bS llS lvS lhS mvS) sz)) (va_A (wS g q kS vS bS llS lvS lhS mvS) sz)) 0 0 (va_A (wS g q kS vS bS llS lvS lhS mvS) sz) := by
  refine q_enter (cc := cX0_has) (maxL := 3) (ret := (some .boolean)) (fun A => va_Qi (fun r (_ : Unit) => post r) (qB D vwCl (tS q) (fun _ : Unit => (wS g q kS vS bS llS lvS lhS mvS)) A) A) (by decide +kernel) rfl (Nat.le_of_ble_eq_true rfl) ?_
  intro p e s m below meth c A ls hx hb hr hml hown hts hlocks hname hP hK hD hA hl
  replace hown : s.vm.findClass RX0 = some m.cls := hown
  replace hl : lv_has ls 3 [(0, .ref (g 0)), (1, .long a1)] := hl
  have hS : va_S A s.heap s.heap [] := va_S.rf
  unfold wp_S_has at hw
  refine lv_aload_n hx hb dX0_has_0 rfl (lv_at hl 0 rfl) ?_
  refine lv_lload_n hx hb dX0_has_1 rfl (lv_at hl 1 rfl) ?_
  refine q_callVi (As := [.long a1]) (rest := []) (wr := []) [0, 1, 2, 3] [] ⟨hx, hb, hml, hown, hts⟩ (c_S_cellOf l D g q kS vS bS llS lvS lhS mvS a1 _ hw _) (cwV 1 hts gX0_has_X0_cellOf rfl rfl rfl (by decide +kernel) ⟨Nat.le_of_ble_eq_true rfl, Nat.le_of_ble_eq_true rfl⟩) (va_recv hK hP (ci := 0) (q0 := 0) rfl rfl) hK hP hD hS hA rfl rfl rfl (by decide) (by decide) (by decide) rfl hl.1 rfl (Nat.le_of_ble_eq_true rfl) dX0_has_2 ⟨Nat.zero_le _, Nat.zero_le _⟩ (fun r_1 u H locs hw hP hD hS => ?_)
  try dsimp only at hw
  replace hP : va_P D vwCl (wS g q kS vS bS llS lvS lhS mvS) H := hP
  replace hD : va_D A (wS g q kS vS bS llS lvS lhS mvS) := hD
  refine lv_iconst (v := (-1)) hx hb dX0_has_5 (by decide) ?_
  refine lv_icmp_eq (tgt := 13) hx hb dX0_has_6 (by decide) (fun c_2 => ?_) (fun c_2 => ?_)
  · replace hw := hw.1 c_2
    refine lv_iconst (v := 0) hx hb dX0_has_13 (by decide) ?_
    exact q_zret () hx hb hr (by decide) hlocks hK dX0_has_14 hS hP hD hw
  · replace hw := hw.2 c_2
    refine lv_iconst (v := 1) hx hb dX0_has_9 (by decide) ?_
    refine lv_goto (tgt := 14) hx hb dX0_has_10 (by decide) ?_
    exact q_zret () hx hb hr (by decide) hlocks hK dX0_has_14 hS hP hD hw
set_option maxHeartbeats 4000000 in
set_option maxRecDepth 100000 in
theorem c_S_get (l : Launch) (D : va_G) (g : Nat → Nat) (q : Nat → ClassId) (kS : Nat → Int64) (vS : Nat → Int64) (bS : Nat → Int32) (llS : Int32) (lvS : Int32) (lhS : Int32) (mvS : Int64) (a1 : Int64) (post : Int64 → Prop) (hw : wp_S_get kS vS lvS a1 post) (sz : Nat) : Met l yX0_get wsX0_get ({ frames := 5, cells := 0, slots := 0, locals := 120 }) (qP D vwCl (tS q) (wS g q kS vS bS llS lvS lhS mvS) sz [.ref (g 0), .long a1]) (va_Ql (fun r (_ : Unit) => post r) (qB D vwCl (tS q) (fun _ : Unit => (wS g q kS vS bS llS lvS lhS mvS)) (va_A (wS g q kS vS bS llS lvS lhS mvS) sz)) (va_A (wS g q kS vS bS llS lvS lhS mvS) sz)) 0 0 (va_A (wS g q kS vS bS llS lvS lhS mvS) sz) := by
  refine q_enter (cc := cX0_get) (maxL := 4) (ret := (some .long)) (fun A => va_Ql (fun r (_ : Unit) => post r) (qB D vwCl (tS q) (fun _ : Unit => (wS g q kS vS bS llS lvS lhS mvS)) A) A) (by decide +kernel) rfl (Nat.le_of_ble_eq_true rfl) ?_
  intro p e s m below meth c A ls hx hb hr hml hown hts hlocks hname hP hK hD hA hl
  replace hown : s.vm.findClass RX0 = some m.cls := hown
  replace hl : lv_has ls 4 [(0, .ref (g 0)), (1, .long a1)] := hl
  have hS : va_S A s.heap s.heap [] := va_S.rf
  have hf_values := hts _ (List.mem_cons_of_mem _ tfl_X0_21)
  unfold wp_S_get at hw
  refine lv_aload_n hx hb dX0_get_0 rfl (lv_at hl 0 rfl) ?_
  refine lv_lload_n hx hb dX0_get_1 rfl (lv_at hl 1 rfl) ?_
  refine q_callVi (As := [.long a1]) (rest := []) (wr := []) [0, 1, 2, 3] [] ⟨hx, hb, hml, hown, hts⟩ (c_S_cellOf l D g q kS vS bS llS lvS lhS mvS a1 _ hw _) (cwV 1 hts gX0_get_X0_cellOf rfl rfl rfl (by decide +kernel) ⟨Nat.le_of_ble_eq_true rfl, Nat.le_of_ble_eq_true rfl⟩) (va_recv hK hP (ci := 0) (q0 := 0) rfl rfl) hK hP hD hS hA rfl rfl rfl (by decide) (by decide) (by decide) rfl hl.1 rfl (Nat.le_of_ble_eq_true rfl) dX0_get_2 ⟨Nat.zero_le _, Nat.zero_le _⟩ (fun r_1 u H locs hw hP hD hS => ?_)
  try dsimp only at hw
  replace hP : va_P D vwCl (wS g q kS vS bS llS lvS lhS mvS) H := hP
  replace hD : va_D A (wS g q kS vS bS llS lvS lhS mvS) := hD
  refine lv_istore_n (lv' := [(3, .int r_1), (0, .ref (g 0)), (1, .long a1)]) hx hb dX0_get_5 rfl hl (by decide) rfl (fun ls hl => ?_)
  refine lv_iload_n hx hb dX0_get_6 rfl (lv_at hl 0 rfl) ?_
  refine lv_iconst (v := (-1)) hx hb dX0_get_7 (by decide) ?_
  refine lv_icmp_ne (tgt := 15) hx hb dX0_get_8 (by decide) (fun c_2 => ?_) (fun c_2 => ?_)
  · replace hw := hw.2 c_2
    refine lv_aload_n hx hb dX0_get_15 rfl (lv_at hl 1 rfl) ?_
    refine va_get (D := D) (ci := 0) (v := .ref (g 2)) (C := RX0) (T := TX0) (N := 7) hx hb hts (fun w h => List.mem_cons_of_mem _ (iX0 w h)) hown hK hP 0 rfl rfl 1 (by decide) hf_values (fun _ h9 => h9) rfl dX0_get_16 ?_
    refine lv_iload_n hx hb dX0_get_19 rfl (lv_at hl 0 rfl) ?_
    obtain ⟨hi_3, hw⟩ := hw
    refine va_lald hx hb hK hP 2 1 rfl rfl hi_3 dX0_get_20 ?_
    exact q_lret () hx hb hr hlocks hK dX0_get_21 hS hP hD hw
  · replace hw := hw.1 c_2
    refine lv_lconst (v := 0) hx hb dX0_get_11 (by decide) ?_
    refine lv_goto (tgt := 21) hx hb dX0_get_12 (by decide) ?_
    exact q_lret () hx hb hr hlocks hK dX0_get_21 hS hP hD hw
set_option maxHeartbeats 4000000 in
set_option maxRecDepth 100000 in
theorem c_S_floor (l : Launch) (D : va_G) (g : Nat → Nat) (q : Nat → ClassId) (kS : Nat → Int64) (vS : Nat → Int64) (bS : Nat → Int32) (llS : Int32) (lvS : Int32) (lhS : Int32) (mvS : Int64) (a1 : Int64) (post : Int64 → Prop) (hw : wp_S_floor kS lvS a1 post) (sz : Nat) : Met l yX0_floor wsX0_floor ({ frames := 2, cells := 0, slots := 0, locals := 40 }) (qP D vwCl (tS q) (wS g q kS vS bS llS lvS lhS mvS) sz [.ref (g 0), .long a1]) (va_Ql (fun r (_ : Unit) => post r) (qB D vwCl (tS q) (fun _ : Unit => (wS g q kS vS bS llS lvS lhS mvS)) (va_A (wS g q kS vS bS llS lvS lhS mvS) sz)) (va_A (wS g q kS vS bS llS lvS lhS mvS) sz)) 0 0 (va_A (wS g q kS vS bS llS lvS lhS mvS) sz) := by
  refine q_enter (cc := cX0_floor) (maxL := 4) (ret := (some .long)) (fun A => va_Ql (fun r (_ : Unit) => post r) (qB D vwCl (tS q) (fun _ : Unit => (wS g q kS vS bS llS lvS lhS mvS)) A) A) (by decide +kernel) rfl (Nat.le_of_ble_eq_true rfl) ?_
  intro p e s m below meth c A ls hx hb hr hml hown hts hlocks hname hP hK hD hA hl
  replace hown : s.vm.findClass RX0 = some m.cls := hown
  replace hl : lv_has ls 4 [(0, .ref (g 0)), (1, .long a1)] := hl
  have hS : va_S A s.heap s.heap [] := va_S.rf
  have hf_keys := hts _ (List.mem_cons_of_mem _ tfl_X0_9)
  have L7 : ∀ (x1 : Int64) (n : Nat) (x3 : Int32), wp_S_floor_L7 kS lvS x1 post n x3 → ∀ (H : Heap) (locs : List Loc) (ls : Array Slot), va_P D vwCl (wS g q kS vS bS llS lvS lhS mvS) H → va_D A (wS g q kS vS bS llS lvS lhS mvS) → va_S A s.heap H locs → lv_has ls 4 [(0, .ref (g 0)), (1, .long x1), (3, .int x3)] → W p l e { frames := 2, cells := 0, slots := 0, locals := 40 } s m ([.ref (g 0), .long a1] : List Value).toArray below meth c H locs 0 0 (MQ below (va_Ql (fun r (_ : Unit) => post r) (qB D vwCl (tS q) (fun _ : Unit => (wS g q kS vS bS llS lvS lhS mvS)) A) A) ([.ref (g 0), .long a1] : List Value).toArray s 0 0 A) (F0 m 7 ls []) := by
    intro x1 n
    induction n with
    | zero => intro x3 hw; exact False.elim (show False from hw)
    | succ n ih =>
      intro x3 hw H locs ls hP hD hS hl
      rw [wp_S_floor_L7] at hw
      refine lv_iload_n hx hb dX0_floor_7 rfl (lv_at hl 2 rfl) ?_
      refine lv_if_lt (tgt := 48) hx hb dX0_floor_8 (by decide) (fun c_2 => ?_) (fun c_2 => ?_)
      · replace hw := hw.1 c_2
        refine lv_ldc2 (v := NOK) hx hb hown (hts _ (List.mem_cons_of_mem _ tcn_X0_13)) dX0_floor_48 ?_
        exact q_lret () hx hb hr hlocks hK dX0_floor_51 hS hP hD hw
      · replace hw := hw.2 c_2
        refine lv_aload_n hx hb dX0_floor_11 rfl (lv_at hl 0 rfl) ?_
        refine va_get (D := D) (ci := 0) (v := .ref (g 1)) (C := RX0) (T := TX0) (N := 7) hx hb hts (fun w h => List.mem_cons_of_mem _ (iX0 w h)) hown hK hP 0 rfl rfl 0 (by decide) hf_keys (fun _ h9 => h9) rfl dX0_floor_12 ?_
        refine lv_iload_n hx hb dX0_floor_15 rfl (lv_at hl 2 rfl) ?_
        obtain ⟨hi_3, hw⟩ := hw
        refine va_lald hx hb hK hP 1 0 rfl rfl hi_3 dX0_floor_16 ?_
        refine lv_ldc2 (v := NOK) hx hb hown (hts _ (List.mem_cons_of_mem _ tcn_X0_13)) dX0_floor_17 ?_
        refine q_lc_eq (tgt := 42) hx hb dX0_floor_20 dX0_floor_21 (by decide) (fun c_4 => ?_) (fun c_4 => ?_)
        · replace hw := hw.1 c_4
          refine lv_iinc (v := (x3 + (-1))) (lv' := [(3, .int (x3 + (-1))), (0, .ref (g 0)), (1, .long x1)]) hx hb dX0_floor_42 hl (k := 2) rfl rfl (by decide) rfl (fun ls hl => ?_)
          refine lv_goto (tgt := 7) hx hb dX0_floor_45 (by decide) ?_
          exact ih (x3 + (-1)) hw _ _ ls hP hD hS (lv_sub hl [1, 2, 0] rfl)
        · replace hw := hw.2 c_4
          refine lv_aload_n hx hb dX0_floor_24 rfl (lv_at hl 0 rfl) ?_
          refine va_get (D := D) (ci := 0) (v := .ref (g 1)) (C := RX0) (T := TX0) (N := 7) hx hb hts (fun w h => List.mem_cons_of_mem _ (iX0 w h)) hown hK hP 0 rfl rfl 0 (by decide) hf_keys (fun _ h9 => h9) rfl dX0_floor_25 ?_
          refine lv_iload_n hx hb dX0_floor_28 rfl (lv_at hl 2 rfl) ?_
          refine va_lald hx hb hK hP 1 0 rfl rfl hi_3 dX0_floor_29 ?_
          refine lv_lload_n hx hb dX0_floor_30 rfl (lv_at hl 1 rfl) ?_
          refine q_lc_gt (tgt := 42) hx hb dX0_floor_31 dX0_floor_32 (by decide) (fun c_5 => ?_) (fun c_5 => ?_)
          · replace hw := hw.1 c_5
            refine lv_iinc (v := (x3 + (-1))) (lv' := [(3, .int (x3 + (-1))), (0, .ref (g 0)), (1, .long x1)]) hx hb dX0_floor_42 hl (k := 2) rfl rfl (by decide) rfl (fun ls hl => ?_)
            refine lv_goto (tgt := 7) hx hb dX0_floor_45 (by decide) ?_
            exact ih (x3 + (-1)) hw _ _ ls hP hD hS (lv_sub hl [1, 2, 0] rfl)
          · replace hw := hw.2 c_5
            refine lv_aload_n hx hb dX0_floor_35 rfl (lv_at hl 0 rfl) ?_
            refine va_get (D := D) (ci := 0) (v := .ref (g 1)) (C := RX0) (T := TX0) (N := 7) hx hb hts (fun w h => List.mem_cons_of_mem _ (iX0 w h)) hown hK hP 0 rfl rfl 0 (by decide) hf_keys (fun _ h9 => h9) rfl dX0_floor_36 ?_
            refine lv_iload_n hx hb dX0_floor_39 rfl (lv_at hl 2 rfl) ?_
            refine va_lald hx hb hK hP 1 0 rfl rfl hi_3 dX0_floor_40 ?_
            exact q_lret () hx hb hr hlocks hK dX0_floor_41 hS hP hD hw
  unfold wp_S_floor at hw
  refine lv_aload_n hx hb dX0_floor_0 rfl (lv_at hl 0 rfl) ?_
  refine q_callVi (As := []) (rest := []) (wr := []) [0, 1, 2, 3] [] ⟨hx, hb, hml, hown, hts⟩ (c_S_cells l D g q kS vS bS llS lvS lhS mvS  _ hw _) (cwV 0 hts gX0_floor_X0_cells rfl rfl rfl (by decide +kernel) ⟨Nat.le_of_ble_eq_true rfl, Nat.le_of_ble_eq_true rfl⟩) (va_recv hK hP (ci := 0) (q0 := 0) rfl rfl) hK hP hD hS hA rfl rfl rfl (by decide) (by decide) (by decide) rfl hl.1 rfl (Nat.le_of_ble_eq_true rfl) dX0_floor_1 ⟨Nat.zero_le _, Nat.zero_le _⟩ (fun r_1 u H locs hw hP hD hS => ?_)
  try dsimp only at hw
  replace hP : va_P D vwCl (wS g q kS vS bS llS lvS lhS mvS) H := hP
  replace hD : va_D A (wS g q kS vS bS llS lvS lhS mvS) := hD
  refine lv_iconst (v := 1) hx hb dX0_floor_4 (by decide) ?_
  refine lv_isub hx hb dX0_floor_5 ?_
  refine lv_istore_n (lv' := [(3, .int (r_1 - 1)), (0, .ref (g 0)), (1, .long a1)]) hx hb dX0_floor_6 rfl hl (by decide) rfl (fun ls hl => ?_)
  obtain ⟨n0, hw⟩ := hw
  exact L7 a1 n0 (r_1 - 1) hw _ _ ls hP hD hS (lv_sub hl [1, 2, 0] rfl)
set_option maxHeartbeats 4000000 in
set_option maxRecDepth 100000 in
theorem c_S_ceiling (l : Launch) (D : va_G) (g : Nat → Nat) (q : Nat → ClassId) (kS : Nat → Int64) (vS : Nat → Int64) (bS : Nat → Int32) (llS : Int32) (lvS : Int32) (lhS : Int32) (mvS : Int64) (a1 : Int64) (post : Int64 → Prop) (hw : wp_S_ceiling kS lvS a1 post) (sz : Nat) : Met l yX0_ceiling wsX0_ceiling ({ frames := 4, cells := 0, slots := 0, locals := 97 }) (qP D vwCl (tS q) (wS g q kS vS bS llS lvS lhS mvS) sz [.ref (g 0), .long a1]) (va_Ql (fun r (_ : Unit) => post r) (qB D vwCl (tS q) (fun _ : Unit => (wS g q kS vS bS llS lvS lhS mvS)) (va_A (wS g q kS vS bS llS lvS lhS mvS) sz)) (va_A (wS g q kS vS bS llS lvS lhS mvS) sz)) 0 0 (va_A (wS g q kS vS bS llS lvS lhS mvS) sz) := by
  refine q_enter (cc := cX0_ceiling) (maxL := 4) (ret := (some .long)) (fun A => va_Ql (fun r (_ : Unit) => post r) (qB D vwCl (tS q) (fun _ : Unit => (wS g q kS vS bS llS lvS lhS mvS)) A) A) (by decide +kernel) rfl (Nat.le_of_ble_eq_true rfl) ?_
  intro p e s m below meth c A ls hx hb hr hml hown hts hlocks hname hP hK hD hA hl
  replace hown : s.vm.findClass RX0 = some m.cls := hown
  replace hl : lv_has ls 4 [(0, .ref (g 0)), (1, .long a1)] := hl
  have hS : va_S A s.heap s.heap [] := va_S.rf
  have hf_keys := hts _ (List.mem_cons_of_mem _ tfl_X0_9)
  unfold wp_S_ceiling at hw
  refine lv_aload_n hx hb dX0_ceiling_0 rfl (lv_at hl 0 rfl) ?_
  refine lv_lload_n hx hb dX0_ceiling_1 rfl (lv_at hl 1 rfl) ?_
  refine q_callVi (As := [.long a1]) (rest := []) (wr := []) [0, 1, 2, 3] [] ⟨hx, hb, hml, hown, hts⟩ (c_S_cellNotBelow l D g q kS vS bS llS lvS lhS mvS a1 _ hw _) (cwV 1 hts gX0_ceiling_X0_cellNotBelow rfl rfl rfl (by decide +kernel) ⟨Nat.le_of_ble_eq_true rfl, Nat.le_of_ble_eq_true rfl⟩) (va_recv hK hP (ci := 0) (q0 := 0) rfl rfl) hK hP hD hS hA rfl rfl rfl (by decide) (by decide) (by decide) rfl hl.1 rfl (Nat.le_of_ble_eq_true rfl) dX0_ceiling_2 ⟨Nat.zero_le _, Nat.zero_le _⟩ (fun r_1 u H locs hw hP hD hS => ?_)
  try dsimp only at hw
  replace hP : va_P D vwCl (wS g q kS vS bS llS lvS lhS mvS) H := hP
  replace hD : va_D A (wS g q kS vS bS llS lvS lhS mvS) := hD
  refine lv_istore_n (lv' := [(3, .int r_1), (0, .ref (g 0)), (1, .long a1)]) hx hb dX0_ceiling_5 rfl hl (by decide) rfl (fun ls hl => ?_)
  refine lv_iload_n hx hb dX0_ceiling_6 rfl (lv_at hl 0 rfl) ?_
  refine lv_iconst (v := (-1)) hx hb dX0_ceiling_7 (by decide) ?_
  refine lv_icmp_ne (tgt := 17) hx hb dX0_ceiling_8 (by decide) (fun c_2 => ?_) (fun c_2 => ?_)
  · replace hw := hw.2 c_2
    refine lv_aload_n hx hb dX0_ceiling_17 rfl (lv_at hl 1 rfl) ?_
    refine va_get (D := D) (ci := 0) (v := .ref (g 1)) (C := RX0) (T := TX0) (N := 7) hx hb hts (fun w h => List.mem_cons_of_mem _ (iX0 w h)) hown hK hP 0 rfl rfl 0 (by decide) hf_keys (fun _ h9 => h9) rfl dX0_ceiling_18 ?_
    refine lv_iload_n hx hb dX0_ceiling_21 rfl (lv_at hl 0 rfl) ?_
    obtain ⟨hi_3, hw⟩ := hw
    refine va_lald hx hb hK hP 1 0 rfl rfl hi_3 dX0_ceiling_22 ?_
    exact q_lret () hx hb hr hlocks hK dX0_ceiling_23 hS hP hD hw
  · replace hw := hw.1 c_2
    refine lv_ldc2 (v := NOK) hx hb hown (hts _ (List.mem_cons_of_mem _ tcn_X0_13)) dX0_ceiling_11 ?_
    refine lv_goto (tgt := 23) hx hb dX0_ceiling_14 (by decide) ?_
    exact q_lret () hx hb hr hlocks hK dX0_ceiling_23 hS hP hD hw
