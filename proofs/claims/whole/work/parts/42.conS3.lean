set_option maxHeartbeats 4000000 in
set_option maxRecDepth 100000 in
theorem c_S_insertPacked (l : Launch) (D : va_G) (g : Nat → Nat) (q : Nat → ClassId) (kS : Nat → Int64) (vS : Nat → Int64) (bS : Nat → Int32) (llS : Int32) (lvS : Int32) (lhS : Int32) (mvS : Int64) (a1 : Int32) (a2 : Int32) (a3 : Int64) (a5 : Int64) (post : (Nat → Int64) → (Nat → Int64) → Prop) (hw : wp_S_insertPacked kS vS a1 a2 a3 a5 post) (sz : Nat) : Met l yX0_insertPacked wsX0_insertPacked ({ frames := 2, cells := 0, slots := 0, locals := 43 }) (qP D vwCl (tS q) (wS g q kS vS bS llS lvS lhS mvS) sz [.ref (g 0), .int a1, .int a2, .long a3, .long a5]) (va_Qv (fun (u : (Nat → Int64) × (Nat → Int64)) => post u.1 u.2) (qB D vwCl (tS q) (fun u : (Nat → Int64) × (Nat → Int64) => (wS g q u.1 u.2 bS llS lvS lhS mvS)) (va_A (wS g q kS vS bS llS lvS lhS mvS) sz)) (va_A (wS g q kS vS bS llS lvS lhS mvS) sz)) 0 0 (va_A (wS g q kS vS bS llS lvS lhS mvS) sz) := by
  refine q_enter (cc := cX0_insertPacked) (maxL := 8) (ret := none) (fun A => va_Qv (fun (u : (Nat → Int64) × (Nat → Int64)) => post u.1 u.2) (qB D vwCl (tS q) (fun u : (Nat → Int64) × (Nat → Int64) => (wS g q u.1 u.2 bS llS lvS lhS mvS)) A) A) (by decide +kernel) rfl (Nat.le_of_ble_eq_true rfl) ?_
  intro p e s m below meth c A ls hx hb hr hml hown hts hlocks hname hP hK hD hA hl
  replace hown : s.vm.findClass RX0 = some m.cls := hown
  replace hl : lv_has ls 8 [(0, .ref (g 0)), (1, .int a1), (2, .int a2), (3, .long a3), (5, .long a5)] := hl
  have hS : va_S A s.heap s.heap [] := va_S.rf
  have hf_values := hts _ (List.mem_cons_of_mem _ tfl_X0_21)
  have hf_keys := hts _ (List.mem_cons_of_mem _ tfl_X0_9)
  have L5 : ∀ (x1 : Int32) (x3 : Int64) (x5 : Int64) (n : Nat) (x7 : Int32) (kS : Nat → Int64) (vS : Nat → Int64), wp_S_insertPacked_L5 x1 x3 x5 post n x7 kS vS → ∀ (H : Heap) (locs : List Loc) (ls : Array Slot), va_P D vwCl (wS g q kS vS bS llS lvS lhS mvS) H → va_D A (wS g q kS vS bS llS lvS lhS mvS) → va_S A s.heap H locs → lv_has ls 8 [(0, .ref (g 0)), (1, .int x1), (3, .long x3), (5, .long x5), (7, .int x7)] → W p l e { frames := 2, cells := 0, slots := 0, locals := 43 } s m ([.ref (g 0), .int a1, .int a2, .long a3, .long a5] : List Value).toArray below meth c H locs 0 0 (MQ below (va_Qv (fun (u : (Nat → Int64) × (Nat → Int64)) => post u.1 u.2) (qB D vwCl (tS q) (fun u : (Nat → Int64) × (Nat → Int64) => (wS g q u.1 u.2 bS llS lvS lhS mvS)) A) A) ([.ref (g 0), .int a1, .int a2, .long a3, .long a5] : List Value).toArray s 0 0 A) (F0 m 5 ls []) := by
    intro x1 x3 x5 n
    induction n with
    | zero => intro x7 kS vS hw; exact False.elim (show False from hw)
    | succ n ih =>
      intro x7 kS vS hw H locs ls hP hD hS hl
      rw [wp_S_insertPacked_L5] at hw
      refine lv_iload hx hb dX0_insertPacked_5 (lv_at hl 4 rfl) ?_
      refine lv_iload_n hx hb dX0_insertPacked_7 rfl (lv_at hl 1 rfl) ?_
      refine lv_icmp_le (tgt := 41) hx hb dX0_insertPacked_8 (by decide) (fun c_1 => ?_) (fun c_1 => ?_)
      · replace hw := hw.1 c_1
        refine lv_aload_n hx hb dX0_insertPacked_41 rfl (lv_at hl 0 rfl) ?_
        refine va_get (D := D) (ci := 0) (v := .ref (g 1)) (C := RX0) (T := TX0) (N := 7) hx hb hts (fun w h => List.mem_cons_of_mem _ (iX0 w h)) hown hK hP 0 rfl rfl 0 (by decide) hf_keys (fun _ h9 => h9) rfl dX0_insertPacked_42 ?_
        refine lv_iload hx hb dX0_insertPacked_45 (lv_at hl 4 rfl) ?_
        refine lv_lload_n hx hb dX0_insertPacked_47 rfl (lv_at hl 2 rfl) ?_
        obtain ⟨hi_2, hw⟩ := hw
        refine va_last hx hb hK hP hD hS 1 0 rfl rfl hi_2 dX0_insertPacked_48 (fun H locs hP hD hS => ?_)
        replace hP : va_P D vwCl (wS g q (vp_updL kS x7.toNatClampNeg x3) vS bS llS lvS lhS mvS) H := hP
        replace hD : va_D A (wS g q (vp_updL kS x7.toNatClampNeg x3) vS bS llS lvS lhS mvS) := hD
        refine lv_aload_n hx hb dX0_insertPacked_49 rfl (lv_at hl 0 rfl) ?_
        refine va_get (D := D) (ci := 0) (v := .ref (g 2)) (C := RX0) (T := TX0) (N := 7) hx hb hts (fun w h => List.mem_cons_of_mem _ (iX0 w h)) hown hK hP 0 rfl rfl 1 (by decide) hf_values (fun _ h9 => h9) rfl dX0_insertPacked_50 ?_
        refine lv_iload hx hb dX0_insertPacked_53 (lv_at hl 4 rfl) ?_
        refine lv_lload hx hb dX0_insertPacked_55 (lv_at hl 3 rfl) ?_
        refine va_last hx hb hK hP hD hS 2 1 rfl rfl hi_2 dX0_insertPacked_57 (fun H locs hP hD hS => ?_)
        replace hP : va_P D vwCl (wS g q (vp_updL kS x7.toNatClampNeg x3) (vp_updL vS x7.toNatClampNeg x5) bS llS lvS lhS mvS) H := hP
        replace hD : va_D A (wS g q (vp_updL kS x7.toNatClampNeg x3) (vp_updL vS x7.toNatClampNeg x5) bS llS lvS lhS mvS) := hD
        exact q_vret ((vp_updL kS x7.toNatClampNeg x3), (vp_updL vS x7.toNatClampNeg x5)) hx hb hr hlocks hK dX0_insertPacked_58 hS hP hD hw
      · replace hw := hw.2 c_1
        refine lv_aload_n hx hb dX0_insertPacked_11 rfl (lv_at hl 0 rfl) ?_
        refine va_get (D := D) (ci := 0) (v := .ref (g 1)) (C := RX0) (T := TX0) (N := 7) hx hb hts (fun w h => List.mem_cons_of_mem _ (iX0 w h)) hown hK hP 0 rfl rfl 0 (by decide) hf_keys (fun _ h9 => h9) rfl dX0_insertPacked_12 ?_
        refine lv_iload hx hb dX0_insertPacked_15 (lv_at hl 4 rfl) ?_
        refine lv_iconst (v := 1) hx hb dX0_insertPacked_17 (by decide) ?_
        refine lv_isub hx hb dX0_insertPacked_18 ?_
        obtain ⟨hi_3, hw⟩ := hw
        refine va_lald hx hb hK hP 1 0 rfl rfl hi_3 dX0_insertPacked_19 ?_
        refine lv_lload_n hx hb dX0_insertPacked_20 rfl (lv_at hl 2 rfl) ?_
        refine q_lc_le (tgt := 41) hx hb dX0_insertPacked_21 dX0_insertPacked_22 (by decide) (fun c_4 => ?_) (fun c_4 => ?_)
        · replace hw := hw.1 c_4
          refine lv_aload_n hx hb dX0_insertPacked_41 rfl (lv_at hl 0 rfl) ?_
          refine va_get (D := D) (ci := 0) (v := .ref (g 1)) (C := RX0) (T := TX0) (N := 7) hx hb hts (fun w h => List.mem_cons_of_mem _ (iX0 w h)) hown hK hP 0 rfl rfl 0 (by decide) hf_keys (fun _ h9 => h9) rfl dX0_insertPacked_42 ?_
          refine lv_iload hx hb dX0_insertPacked_45 (lv_at hl 4 rfl) ?_
          refine lv_lload_n hx hb dX0_insertPacked_47 rfl (lv_at hl 2 rfl) ?_
          obtain ⟨hi_5, hw⟩ := hw
          refine va_last hx hb hK hP hD hS 1 0 rfl rfl hi_5 dX0_insertPacked_48 (fun H locs hP hD hS => ?_)
          replace hP : va_P D vwCl (wS g q (vp_updL kS x7.toNatClampNeg x3) vS bS llS lvS lhS mvS) H := hP
          replace hD : va_D A (wS g q (vp_updL kS x7.toNatClampNeg x3) vS bS llS lvS lhS mvS) := hD
          refine lv_aload_n hx hb dX0_insertPacked_49 rfl (lv_at hl 0 rfl) ?_
          refine va_get (D := D) (ci := 0) (v := .ref (g 2)) (C := RX0) (T := TX0) (N := 7) hx hb hts (fun w h => List.mem_cons_of_mem _ (iX0 w h)) hown hK hP 0 rfl rfl 1 (by decide) hf_values (fun _ h9 => h9) rfl dX0_insertPacked_50 ?_
          refine lv_iload hx hb dX0_insertPacked_53 (lv_at hl 4 rfl) ?_
          refine lv_lload hx hb dX0_insertPacked_55 (lv_at hl 3 rfl) ?_
          refine va_last hx hb hK hP hD hS 2 1 rfl rfl hi_5 dX0_insertPacked_57 (fun H locs hP hD hS => ?_)
          replace hP : va_P D vwCl (wS g q (vp_updL kS x7.toNatClampNeg x3) (vp_updL vS x7.toNatClampNeg x5) bS llS lvS lhS mvS) H := hP
          replace hD : va_D A (wS g q (vp_updL kS x7.toNatClampNeg x3) (vp_updL vS x7.toNatClampNeg x5) bS llS lvS lhS mvS) := hD
          exact q_vret ((vp_updL kS x7.toNatClampNeg x3), (vp_updL vS x7.toNatClampNeg x5)) hx hb hr hlocks hK dX0_insertPacked_58 hS hP hD hw
        · replace hw := hw.2 c_4
          refine lv_aload_n hx hb dX0_insertPacked_25 rfl (lv_at hl 0 rfl) ?_
          refine lv_iload hx hb dX0_insertPacked_26 (lv_at hl 4 rfl) ?_
          refine lv_iconst (v := 1) hx hb dX0_insertPacked_28 (by decide) ?_
          refine lv_isub hx hb dX0_insertPacked_29 ?_
          refine lv_iload hx hb dX0_insertPacked_30 (lv_at hl 4 rfl) ?_
          refine q_callVv (As := [.int (x7 - 1), .int x7]) (rest := []) (wr := []) [0, 1, 2, 3] [] ⟨hx, hb, hml, hown, hts⟩ (c_S_shift l D g q kS vS bS llS lvS lhS mvS (x7 - 1) x7 _ hw _) (cwV 2 hts gX0_insertPacked_X0_shift rfl rfl rfl (by decide +kernel) ⟨Nat.le_of_ble_eq_true rfl, Nat.le_of_ble_eq_true rfl⟩) (va_recv hK hP (ci := 0) (q0 := 0) rfl rfl) hK hP hD hS hA rfl rfl rfl (by decide) (by decide) (by decide) rfl hl.1 rfl (Nat.le_of_ble_eq_true rfl) dX0_insertPacked_32 ⟨Nat.zero_le _, Nat.zero_le _⟩ (fun u H locs hw hP hD hS => ?_)
          obtain ⟨kS_6, vS_7⟩ := u
          try dsimp only at hw
          replace hP : va_P D vwCl (wS g q kS_6 vS_7 bS llS lvS lhS mvS) H := hP
          replace hD : va_D A (wS g q kS_6 vS_7 bS llS lvS lhS mvS) := hD
          refine lv_iinc (v := (x7 + (-1))) (lv' := [(7, .int (x7 + (-1))), (0, .ref (g 0)), (1, .int x1), (3, .long x3), (5, .long x5)]) hx hb dX0_insertPacked_35 hl (k := 4) rfl rfl (by decide) rfl (fun ls hl => ?_)
          refine lv_goto (tgt := 5) hx hb dX0_insertPacked_38 (by decide) ?_
          exact ih (x7 + (-1)) kS_6 vS_7 hw _ _ ls hP hD hS (lv_sub hl [1, 2, 3, 4, 0] rfl)
  unfold wp_S_insertPacked at hw
  refine lv_iload_n hx hb dX0_insertPacked_0 rfl (lv_at hl 1 rfl) ?_
  refine lv_iload_n hx hb dX0_insertPacked_1 rfl (lv_at hl 2 rfl) ?_
  refine lv_iadd hx hb dX0_insertPacked_2 ?_
  refine lv_istore (lv' := [(7, .int (a1 + a2)), (0, .ref (g 0)), (1, .int a1), (2, .int a2), (3, .long a3), (5, .long a5)]) hx hb dX0_insertPacked_3 hl (by decide) rfl (fun ls hl => ?_)
  obtain ⟨n0, hw⟩ := hw
  exact L5 a1 a3 a5 n0 (a1 + a2) kS vS hw _ _ ls hP hD hS (lv_sub hl [1, 2, 4, 5, 0] rfl)
set_option maxHeartbeats 4000000 in
set_option maxRecDepth 100000 in
theorem c_S_spreadPacked (l : Launch) (D : va_G) (g : Nat → Nat) (q : Nat → ClassId) (kS : Nat → Int64) (vS : Nat → Int64) (bS : Nat → Int32) (llS : Int32) (lvS : Int32) (lhS : Int32) (mvS : Int64) (a1 : Int32) (a2 : Int32) (a3 : Int32) (post : (Nat → Int64) → (Nat → Int64) → (Int32) → (Int64) → Prop) (hw : wp_S_spreadPacked kS vS lhS mvS a1 a2 a3 post) (sz : Nat) : Met l yX0_spreadPacked wsX0_spreadPacked ({ frames := 2, cells := 0, slots := 0, locals := 43 }) (qP D vwCl (tS q) (wS g q kS vS bS llS lvS lhS mvS) sz [.ref (g 0), .int a1, .int a2, .int a3]) (va_Qv (fun (u : (Nat → Int64) × (Nat → Int64) × (Int32) × (Int64)) => post u.1 u.2.1 u.2.2.1 u.2.2.2) (qB D vwCl (tS q) (fun u : (Nat → Int64) × (Nat → Int64) × (Int32) × (Int64) => (wS g q u.1 u.2.1 bS llS lvS u.2.2.1 u.2.2.2)) (va_A (wS g q kS vS bS llS lvS lhS mvS) sz)) (va_A (wS g q kS vS bS llS lvS lhS mvS) sz)) 0 0 (va_A (wS g q kS vS bS llS lvS lhS mvS) sz) := by
  refine q_enter (cc := cX0_spreadPacked) (maxL := 5) (ret := none) (fun A => va_Qv (fun (u : (Nat → Int64) × (Nat → Int64) × (Int32) × (Int64)) => post u.1 u.2.1 u.2.2.1 u.2.2.2) (qB D vwCl (tS q) (fun u : (Nat → Int64) × (Nat → Int64) × (Int32) × (Int64) => (wS g q u.1 u.2.1 bS llS lvS u.2.2.1 u.2.2.2)) A) A) (by decide +kernel) rfl (Nat.le_of_ble_eq_true rfl) ?_
  intro p e s m below meth c A ls hx hb hr hml hown hts hlocks hname hP hK hD hA hl
  replace hown : s.vm.findClass RX0 = some m.cls := hown
  replace hl : lv_has ls 5 [(0, .ref (g 0)), (1, .int a1), (2, .int a2), (3, .int a3)] := hl
  have hS : va_S A s.heap s.heap [] := va_S.rf
  have hf_latestHeight := hts _ (List.mem_cons_of_mem _ tfl_X0_35)
  have hf_movedKeys := hts _ (List.mem_cons_of_mem _ tfl_X0_38)
  have L5 : ∀ (x1 : Int32) (x2 : Int32) (x3 : Int32) (n : Nat) (x4 : Int32) (kS : Nat → Int64) (vS : Nat → Int64) (lhS : Int32) (mvS : Int64), wp_S_spreadPacked_L5 x1 x2 x3 post n x4 kS vS lhS mvS → ∀ (H : Heap) (locs : List Loc) (ls : Array Slot), va_P D vwCl (wS g q kS vS bS llS lvS lhS mvS) H → va_D A (wS g q kS vS bS llS lvS lhS mvS) → va_S A s.heap H locs → lv_has ls 5 [(0, .ref (g 0)), (1, .int x1), (2, .int x2), (3, .int x3), (4, .int x4)] → W p l e { frames := 2, cells := 0, slots := 0, locals := 43 } s m ([.ref (g 0), .int a1, .int a2, .int a3] : List Value).toArray below meth c H locs 0 0 (MQ below (va_Qv (fun (u : (Nat → Int64) × (Nat → Int64) × (Int32) × (Int64)) => post u.1 u.2.1 u.2.2.1 u.2.2.2) (qB D vwCl (tS q) (fun u : (Nat → Int64) × (Nat → Int64) × (Int32) × (Int64) => (wS g q u.1 u.2.1 bS llS lvS u.2.2.1 u.2.2.2)) A) A) ([.ref (g 0), .int a1, .int a2, .int a3] : List Value).toArray s 0 0 A) (F0 m 5 ls []) := by
    intro x1 x2 x3 n
    induction n with
    | zero => intro x4 kS vS lhS mvS hw; exact False.elim (show False from hw)
    | succ n ih =>
      intro x4 kS vS lhS mvS hw H locs ls hP hD hS hl
      rw [wp_S_spreadPacked_L5] at hw
      refine lv_iload hx hb dX0_spreadPacked_5 (lv_at hl 4 rfl) ?_
      refine lv_if_lt (tgt := 35) hx hb dX0_spreadPacked_7 (by decide) (fun c_1 => ?_) (fun c_1 => ?_)
      · replace hw := hw.1 c_1
        refine lv_aload_n hx hb dX0_spreadPacked_35 rfl (lv_at hl 0 rfl) ?_
        refine lv_iload_n hx hb dX0_spreadPacked_36 rfl (lv_at hl 2 rfl) ?_
        refine va_put (D := D) (ci := 0) (v := .int x2) (ty := .int) (C := RX0) (T := TX0) (N := 7) hx hb hts (fun w h => List.mem_cons_of_mem _ (iX0 w h)) tyX0 tyX0_ok nmX0 hown hK hP hD hS 0 rfl rfl 5 (by decide) hf_latestHeight (fun _ h9 => h9) rfl (by decide +kernel) rfl rfl (Nat.le_of_ble_eq_true rfl) dX0_spreadPacked_37 (fun H locs hP hD hS => ?_)
        replace hP : va_P D vwCl (wS g q kS vS bS llS lvS x2 mvS) H := hP
        replace hD : va_D A (wS g q kS vS bS llS lvS x2 mvS) := hD
        refine lv_aload_n hx hb dX0_spreadPacked_40 rfl (lv_at hl 0 rfl) ?_
        refine lv_dup hx hb dX0_spreadPacked_41 rfl ?_
        refine va_get (D := D) (ci := 0) (v := .long mvS) (C := RX0) (T := TX0) (N := 7) hx hb hts (fun w h => List.mem_cons_of_mem _ (iX0 w h)) hown hK hP 0 rfl rfl 6 (by decide) hf_movedKeys (fun _ h9 => h9) rfl dX0_spreadPacked_42 ?_
        refine lv_iload_n hx hb dX0_spreadPacked_45 rfl (lv_at hl 3 rfl) ?_
        refine lv_i2l hx hb dX0_spreadPacked_46 rfl ?_
        refine lv_ladd hx hb dX0_spreadPacked_47 ?_
        refine va_put (D := D) (ci := 0) (v := .long (mvS + x3.toInt64)) (ty := .long) (C := RX0) (T := TX0) (N := 7) hx hb hts (fun w h => List.mem_cons_of_mem _ (iX0 w h)) tyX0 tyX0_ok nmX0 hown hK hP hD hS 0 rfl rfl 6 (by decide) hf_movedKeys (fun _ h9 => h9) rfl (by decide +kernel) rfl rfl (Nat.le_of_ble_eq_true rfl) dX0_spreadPacked_48 (fun H locs hP hD hS => ?_)
        replace hP : va_P D vwCl (wS g q kS vS bS llS lvS x2 (mvS + x3.toInt64)) H := hP
        replace hD : va_D A (wS g q kS vS bS llS lvS x2 (mvS + x3.toInt64)) := hD
        exact q_vret (kS, vS, x2, (mvS + x3.toInt64)) hx hb hr hlocks hK dX0_spreadPacked_51 hS hP hD hw
      · replace hw := hw.2 c_1
        refine lv_aload_n hx hb dX0_spreadPacked_10 rfl (lv_at hl 0 rfl) ?_
        refine lv_iload_n hx hb dX0_spreadPacked_11 rfl (lv_at hl 1 rfl) ?_
        refine lv_iload hx hb dX0_spreadPacked_12 (lv_at hl 4 rfl) ?_
        refine lv_iadd hx hb dX0_spreadPacked_14 ?_
        refine lv_iload_n hx hb dX0_spreadPacked_15 rfl (lv_at hl 1 rfl) ?_
        refine lv_iload hx hb dX0_spreadPacked_16 (lv_at hl 4 rfl) ?_
        refine lv_iload_n hx hb dX0_spreadPacked_18 rfl (lv_at hl 2 rfl) ?_
        refine q_callSi (As := [.int x2]) (rest := [.int x4, .int x1, .int (x1 + x4), .ref (g 0)]) (wr := (wS g q kS vS bS llS lvS lhS mvS)) [] [0, 1, 2, 3] ⟨hx, hb, hml, hown, hts⟩ (c_S_windowCells l D x2 _ hw _) (va_cwS 1 hts gX0_spreadPacked_X0_windowCells rfl rfl rfl (by decide +kernel) ⟨Nat.le_of_ble_eq_true rfl, Nat.le_of_ble_eq_true rfl⟩) (hK.sub (tys' := []) [] rfl) hP hD hS hA rfl rfl rfl (by decide) (by decide) (by decide) rfl hl.1 rfl (Nat.le_of_ble_eq_true rfl) dX0_spreadPacked_19 ⟨Nat.zero_le _, Nat.zero_le _⟩ (fun r_2 u H locs hw hP hD hS => ?_)
        try dsimp only at hw
        replace hP : va_P D vwCl (wS g q kS vS bS llS lvS lhS mvS) H := hP
        replace hD : va_D A (wS g q kS vS bS llS lvS lhS mvS) := hD
        refine lv_imul hx hb dX0_spreadPacked_22 ?_
        refine lv_iload_n hx hb dX0_spreadPacked_23 rfl (lv_at hl 3 rfl) ?_
        obtain ⟨hz_3, hw⟩ := hw
        refine lv_idiv hx hb dX0_spreadPacked_24 hz_3 ?_
        refine lv_iadd hx hb dX0_spreadPacked_25 ?_
        refine q_callVv (As := [.int (x1 + x4), .int (x1 + ((x4 * r_2) / x3))]) (rest := []) (wr := []) [0, 1, 2, 3] [] ⟨hx, hb, hml, hown, hts⟩ (c_S_shift l D g q kS vS bS llS lvS lhS mvS (x1 + x4) (x1 + ((x4 * r_2) / x3)) _ hw _) (cwV 2 hts gX0_spreadPacked_X0_shift rfl rfl rfl (by decide +kernel) ⟨Nat.le_of_ble_eq_true rfl, Nat.le_of_ble_eq_true rfl⟩) (va_recv hK hP (ci := 0) (q0 := 0) rfl rfl) hK hP hD hS hA rfl rfl rfl (by decide) (by decide) (by decide) rfl hl.1 rfl (Nat.le_of_ble_eq_true rfl) dX0_spreadPacked_26 ⟨Nat.zero_le _, Nat.zero_le _⟩ (fun u H locs hw hP hD hS => ?_)
        obtain ⟨kS_4, vS_5⟩ := u
        try dsimp only at hw
        replace hP : va_P D vwCl (wS g q kS_4 vS_5 bS llS lvS lhS mvS) H := hP
        replace hD : va_D A (wS g q kS_4 vS_5 bS llS lvS lhS mvS) := hD
        refine lv_iinc (v := (x4 + (-1))) (lv' := [(4, .int (x4 + (-1))), (0, .ref (g 0)), (1, .int x1), (2, .int x2), (3, .int x3)]) hx hb dX0_spreadPacked_29 hl (k := 4) rfl rfl (by decide) rfl (fun ls hl => ?_)
        refine lv_goto (tgt := 5) hx hb dX0_spreadPacked_32 (by decide) ?_
        exact ih (x4 + (-1)) kS_4 vS_5 lhS mvS hw _ _ ls hP hD hS (lv_sub hl [1, 2, 3, 4, 0] rfl)
  unfold wp_S_spreadPacked at hw
  refine lv_iload_n hx hb dX0_spreadPacked_0 rfl (lv_at hl 3 rfl) ?_
  refine lv_iconst (v := 1) hx hb dX0_spreadPacked_1 (by decide) ?_
  refine lv_isub hx hb dX0_spreadPacked_2 ?_
  refine lv_istore (lv' := [(4, .int (a3 - 1)), (0, .ref (g 0)), (1, .int a1), (2, .int a2), (3, .int a3)]) hx hb dX0_spreadPacked_3 hl (by decide) rfl (fun ls hl => ?_)
  obtain ⟨n0, hw⟩ := hw
  exact L5 a1 a2 a3 n0 (a3 - 1) kS vS lhS mvS hw _ _ ls hP hD hS (lv_sub hl [1, 2, 3, 4, 0] rfl)
set_option maxHeartbeats 4000000 in
set_option maxRecDepth 100000 in
theorem c_S_cells (l : Launch) (D : va_G) (g : Nat → Nat) (q : Nat → ClassId) (kS : Nat → Int64) (vS : Nat → Int64) (bS : Nat → Int32) (llS : Int32) (lvS : Int32) (lhS : Int32) (mvS : Int64) (post : Int32 → Prop) (hw : wp_S_cells lvS post) (sz : Nat) : Met l yX0_cells wsX0_cells ({ frames := 1, cells := 0, slots := 0, locals := 20 }) (qP D vwCl (tS q) (wS g q kS vS bS llS lvS lhS mvS) sz [.ref (g 0)]) (va_Qi (fun r (_ : Unit) => post r) (qB D vwCl (tS q) (fun _ : Unit => (wS g q kS vS bS llS lvS lhS mvS)) (va_A (wS g q kS vS bS llS lvS lhS mvS) sz)) (va_A (wS g q kS vS bS llS lvS lhS mvS) sz)) 0 0 (va_A (wS g q kS vS bS llS lvS lhS mvS) sz) := by
  refine q_enter (cc := cX0_cells) (maxL := 1) (ret := (some .int)) (fun A => va_Qi (fun r (_ : Unit) => post r) (qB D vwCl (tS q) (fun _ : Unit => (wS g q kS vS bS llS lvS lhS mvS)) A) A) (by decide +kernel) rfl (Nat.le_of_ble_eq_true rfl) ?_
  intro p e s m below meth c A ls hx hb hr hml hown hts hlocks hname hP hK hD hA hl
  replace hown : s.vm.findClass RX0 = some m.cls := hown
  replace hl : lv_has ls 1 [(0, .ref (g 0))] := hl
  have hS : va_S A s.heap s.heap [] := va_S.rf
  have hf_levels := hts _ (List.mem_cons_of_mem _ tfl_X0_32)
  unfold wp_S_cells at hw
  refine lv_aload_n hx hb dX0_cells_0 rfl (lv_at hl 0 rfl) ?_
  refine va_get (D := D) (ci := 0) (v := .int lvS) (C := RX0) (T := TX0) (N := 7) hx hb hts (fun w h => List.mem_cons_of_mem _ (iX0 w h)) hown hK hP 0 rfl rfl 4 (by decide) hf_levels (fun _ h9 => h9) rfl dX0_cells_1 ?_
  refine q_callSi (As := [.int lvS]) (rest := []) (wr := (wS g q kS vS bS llS lvS lhS mvS)) [] [0, 1, 2, 3] ⟨hx, hb, hml, hown, hts⟩ (c_S_windowCells l D lvS _ hw _) (va_cwS 1 hts gX0_cells_X0_windowCells rfl rfl rfl (by decide +kernel) ⟨Nat.le_of_ble_eq_true rfl, Nat.le_of_ble_eq_true rfl⟩) (hK.sub (tys' := []) [] rfl) hP hD hS hA rfl rfl rfl (by decide) (by decide) (by decide) rfl hl.1 rfl (Nat.le_of_ble_eq_true rfl) dX0_cells_4 ⟨Nat.zero_le _, Nat.zero_le _⟩ (fun r_1 u H locs hw hP hD hS => ?_)
  try dsimp only at hw
  replace hP : va_P D vwCl (wS g q kS vS bS llS lvS lhS mvS) H := hP
  replace hD : va_D A (wS g q kS vS bS llS lvS lhS mvS) := hD
  exact q_iret () hx hb hr hlocks hK dX0_cells_7 hS hP hD hw
set_option maxHeartbeats 4000000 in
set_option maxRecDepth 100000 in
theorem c_S_putNew (l : Launch) (D : va_G) (g : Nat → Nat) (q : Nat → ClassId) (kS : Nat → Int64) (vS : Nat → Int64) (bS : Nat → Int32) (llS : Int32) (lvS : Int32) (lhS : Int32) (mvS : Int64) (a1 : Int64) (a3 : Int64) (post : Int32 → (Nat → Int64) → (Nat → Int64) → (Int32) → (Int32) → (Int64) → Prop) (hw : wp_S_putNew kS vS lvS lhS mvS a1 a3 post) (sz : Nat) : Met l yX0_putNew wsX0_putNew ({ frames := 4, cells := 0, slots := 0, locals := 85 }) (qP D vwCl (tS q) (wS g q kS vS bS llS lvS lhS mvS) sz [.ref (g 0), .long a1, .long a3]) (va_Qi (fun r (u : (Nat → Int64) × (Nat → Int64) × (Int32) × (Int32) × (Int64)) => post r u.1 u.2.1 u.2.2.1 u.2.2.2.1 u.2.2.2.2) (qB D vwCl (tS q) (fun u : (Nat → Int64) × (Nat → Int64) × (Int32) × (Int32) × (Int64) => (wS g q u.1 u.2.1 bS llS u.2.2.1 u.2.2.2.1 u.2.2.2.2)) (va_A (wS g q kS vS bS llS lvS lhS mvS) sz)) (va_A (wS g q kS vS bS llS lvS lhS mvS) sz)) 0 0 (va_A (wS g q kS vS bS llS lvS lhS mvS) sz) := by
  refine q_enter (cc := cX0_putNew) (maxL := 9) (ret := (some .boolean)) (fun A => va_Qi (fun r (u : (Nat → Int64) × (Nat → Int64) × (Int32) × (Int32) × (Int64)) => post r u.1 u.2.1 u.2.2.1 u.2.2.2.1 u.2.2.2.2) (qB D vwCl (tS q) (fun u : (Nat → Int64) × (Nat → Int64) × (Int32) × (Int32) × (Int64) => (wS g q u.1 u.2.1 bS llS u.2.2.1 u.2.2.2.1 u.2.2.2.2)) A) A) (by decide +kernel) rfl (Nat.le_of_ble_eq_true rfl) ?_
  intro p e s m below meth c A ls hx hb hr hml hown hts hlocks hname hP hK hD hA hl
  replace hown : s.vm.findClass RX0 = some m.cls := hown
  replace hl : lv_has ls 9 [(0, .ref (g 0)), (1, .long a1), (3, .long a3)] := hl
  have hS : va_S A s.heap s.heap [] := va_S.rf
  have hf_levels := hts _ (List.mem_cons_of_mem _ tfl_X0_32)
  unfold wp_S_putNew at hw
  refine lv_aload_n hx hb dX0_putNew_0 rfl (lv_at hl 0 rfl) ?_
  refine lv_lload_n hx hb dX0_putNew_1 rfl (lv_at hl 1 rfl) ?_
  refine q_callVi (As := [.long a1]) (rest := []) (wr := []) [0, 1, 2, 3] [] ⟨hx, hb, hml, hown, hts⟩ (c_S_seek l D g q kS vS bS llS lvS lhS mvS a1 _ hw _) (cwV 1 hts gX0_putNew_X0_seek rfl rfl rfl (by decide +kernel) ⟨Nat.le_of_ble_eq_true rfl, Nat.le_of_ble_eq_true rfl⟩) (va_recv hK hP (ci := 0) (q0 := 0) rfl rfl) hK hP hD hS hA rfl rfl rfl (by decide) (by decide) (by decide) rfl hl.1 rfl (Nat.le_of_ble_eq_true rfl) dX0_putNew_2 ⟨Nat.zero_le _, Nat.zero_le _⟩ (fun r_1 u H locs hw hP hD hS => ?_)
  try dsimp only at hw
  replace hP : va_P D vwCl (wS g q kS vS bS llS lvS lhS mvS) H := hP
  replace hD : va_D A (wS g q kS vS bS llS lvS lhS mvS) := hD
  refine lv_istore (lv' := [(5, .int r_1), (0, .ref (g 0)), (1, .long a1), (3, .long a3)]) hx hb dX0_putNew_5 hl (by decide) rfl (fun ls hl => ?_)
  refine lv_aload_n hx hb dX0_putNew_7 rfl (lv_at hl 1 rfl) ?_
  refine lv_iload hx hb dX0_putNew_8 (lv_at hl 0 rfl) ?_
  refine q_callVi (As := [.int r_1]) (rest := []) (wr := []) [0, 1, 2, 3] [] ⟨hx, hb, hml, hown, hts⟩ (c_S_heightWithRoom l D g q kS vS bS llS lvS lhS mvS r_1 _ hw _) (cwV 1 hts gX0_putNew_X0_heightWithRoom rfl rfl rfl (by decide +kernel) ⟨Nat.le_of_ble_eq_true rfl, Nat.le_of_ble_eq_true rfl⟩) (va_recv hK hP (ci := 0) (q0 := 0) rfl rfl) hK hP hD hS hA rfl rfl rfl (by decide) (by decide) (by decide) rfl hl.1 rfl (Nat.le_of_ble_eq_true rfl) dX0_putNew_10 ⟨Nat.zero_le _, Nat.zero_le _⟩ (fun r_2 u H locs hw hP hD hS => ?_)
  try dsimp only at hw
  replace hP : va_P D vwCl (wS g q kS vS bS llS lvS lhS mvS) H := hP
  replace hD : va_D A (wS g q kS vS bS llS lvS lhS mvS) := hD
  refine lv_istore (lv' := [(6, .int r_2), (5, .int r_1), (0, .ref (g 0)), (1, .long a1), (3, .long a3)]) hx hb dX0_putNew_13 hl (by decide) rfl (fun ls hl => ?_)
  refine lv_iload hx hb dX0_putNew_15 (lv_at hl 0 rfl) ?_
  refine lv_iconst (v := (-1)) hx hb dX0_putNew_17 (by decide) ?_
  refine lv_icmp_ne (tgt := 49) hx hb dX0_putNew_18 (by decide) (fun c_3 => ?_) (fun c_3 => ?_)
  · replace hw := hw.2 c_3
    refine lv_iload hx hb dX0_putNew_49 (lv_at hl 1 rfl) ?_
    refine lv_iload hx hb dX0_putNew_51 (lv_at hl 0 rfl) ?_
    refine q_callSi (As := [.int r_1, .int r_2]) (rest := []) (wr := (wS g q kS vS bS llS lvS lhS mvS)) [] [0, 1, 2, 3] ⟨hx, hb, hml, hown, hts⟩ (c_S_firstCell l D r_1 r_2 _ hw _) (va_cwS 2 hts gX0_putNew_X0_firstCell rfl rfl rfl (by decide +kernel) ⟨Nat.le_of_ble_eq_true rfl, Nat.le_of_ble_eq_true rfl⟩) (hK.sub (tys' := []) [] rfl) hP hD hS hA rfl rfl rfl (by decide) (by decide) (by decide) rfl hl.1 rfl (Nat.le_of_ble_eq_true rfl) dX0_putNew_53 ⟨Nat.zero_le _, Nat.zero_le _⟩ (fun r_4 u H locs hw hP hD hS => ?_)
    try dsimp only at hw
    replace hP : va_P D vwCl (wS g q kS vS bS llS lvS lhS mvS) H := hP
    replace hD : va_D A (wS g q kS vS bS llS lvS lhS mvS) := hD
    refine lv_istore (lv' := [(7, .int r_4), (6, .int r_2), (5, .int r_1), (0, .ref (g 0)), (1, .long a1), (3, .long a3)]) hx hb dX0_putNew_56 hl (by decide) rfl (fun ls hl => ?_)
    refine lv_aload_n hx hb dX0_putNew_58 rfl (lv_at hl 3 rfl) ?_
    refine lv_iload hx hb dX0_putNew_59 (lv_at hl 0 rfl) ?_
    refine lv_iload hx hb dX0_putNew_61 (lv_at hl 1 rfl) ?_
    refine q_callSi (As := [.int r_2]) (rest := [.int r_4, .ref (g 0)]) (wr := (wS g q kS vS bS llS lvS lhS mvS)) [] [0, 1, 2, 3] ⟨hx, hb, hml, hown, hts⟩ (c_S_windowCells l D r_2 _ hw _) (va_cwS 1 hts gX0_putNew_X0_windowCells rfl rfl rfl (by decide +kernel) ⟨Nat.le_of_ble_eq_true rfl, Nat.le_of_ble_eq_true rfl⟩) (hK.sub (tys' := []) [] rfl) hP hD hS hA rfl rfl rfl (by decide) (by decide) (by decide) rfl hl.1 rfl (Nat.le_of_ble_eq_true rfl) dX0_putNew_63 ⟨Nat.zero_le _, Nat.zero_le _⟩ (fun r_5 u H locs hw hP hD hS => ?_)
    try dsimp only at hw
    replace hP : va_P D vwCl (wS g q kS vS bS llS lvS lhS mvS) H := hP
    replace hD : va_D A (wS g q kS vS bS llS lvS lhS mvS) := hD
    refine q_callVi (As := [.int r_4, .int r_5]) (rest := []) (wr := []) [0, 1, 2, 3] [] ⟨hx, hb, hml, hown, hts⟩ (c_S_pack l D g q kS vS bS llS lvS lhS mvS r_4 r_5 _ hw _) (cwV 2 hts gX0_putNew_X0_pack rfl rfl rfl (by decide +kernel) ⟨Nat.le_of_ble_eq_true rfl, Nat.le_of_ble_eq_true rfl⟩) (va_recv hK hP (ci := 0) (q0 := 0) rfl rfl) hK hP hD hS hA rfl rfl rfl (by decide) (by decide) (by decide) rfl hl.1 rfl (Nat.le_of_ble_eq_true rfl) dX0_putNew_66 ⟨Nat.zero_le _, Nat.zero_le _⟩ (fun r_6 u H locs hw hP hD hS => ?_)
    obtain ⟨kS_7, vS_8⟩ := u
    try dsimp only at hw
    replace hP : va_P D vwCl (wS g q kS_7 vS_8 bS llS lvS lhS mvS) H := hP
    replace hD : va_D A (wS g q kS_7 vS_8 bS llS lvS lhS mvS) := hD
    refine lv_istore (lv' := [(8, .int r_6), (7, .int r_4), (6, .int r_2), (5, .int r_1), (0, .ref (g 0)), (1, .long a1), (3, .long a3)]) hx hb dX0_putNew_69 hl (by decide) rfl (fun ls hl => ?_)
    refine lv_aload_n hx hb dX0_putNew_71 rfl (lv_at hl 4 rfl) ?_
    refine lv_iload hx hb dX0_putNew_72 (lv_at hl 1 rfl) ?_
    refine lv_iload hx hb dX0_putNew_74 (lv_at hl 0 rfl) ?_
    refine lv_lload_n hx hb dX0_putNew_76 rfl (lv_at hl 5 rfl) ?_
    refine lv_lload_n hx hb dX0_putNew_77 rfl (lv_at hl 6 rfl) ?_
    refine q_callVv (As := [.int r_4, .int r_6, .long a1, .long a3]) (rest := []) (wr := []) [0, 1, 2, 3] [] ⟨hx, hb, hml, hown, hts⟩ (c_S_insertPacked l D g q kS_7 vS_8 bS llS lvS lhS mvS r_4 r_6 a1 a3 _ hw _) (cwV 4 hts gX0_putNew_X0_insertPacked rfl rfl rfl (by decide +kernel) ⟨Nat.le_of_ble_eq_true rfl, Nat.le_of_ble_eq_true rfl⟩) (va_recv hK hP (ci := 0) (q0 := 0) rfl rfl) hK hP hD hS hA rfl rfl rfl (by decide) (by decide) (by decide) rfl hl.1 rfl (Nat.le_of_ble_eq_true rfl) dX0_putNew_78 ⟨Nat.zero_le _, Nat.zero_le _⟩ (fun u H locs hw hP hD hS => ?_)
    obtain ⟨kS_9, vS_10⟩ := u
    try dsimp only at hw
    replace hP : va_P D vwCl (wS g q kS_9 vS_10 bS llS lvS lhS mvS) H := hP
    replace hD : va_D A (wS g q kS_9 vS_10 bS llS lvS lhS mvS) := hD
    refine lv_aload_n hx hb dX0_putNew_81 rfl (lv_at hl 4 rfl) ?_
    refine lv_iload hx hb dX0_putNew_82 (lv_at hl 1 rfl) ?_
    refine lv_iload hx hb dX0_putNew_84 (lv_at hl 2 rfl) ?_
    refine lv_iload hx hb dX0_putNew_86 (lv_at hl 0 rfl) ?_
    refine lv_iconst (v := 1) hx hb dX0_putNew_88 (by decide) ?_
    refine lv_iadd hx hb dX0_putNew_89 ?_
    refine q_callVv (As := [.int r_4, .int r_2, .int (r_6 + 1)]) (rest := []) (wr := []) [0, 1, 2, 3] [] ⟨hx, hb, hml, hown, hts⟩ (c_S_spreadPacked l D g q kS_9 vS_10 bS llS lvS lhS mvS r_4 r_2 (r_6 + 1) _ hw _) (cwV 3 hts gX0_putNew_X0_spreadPacked rfl rfl rfl (by decide +kernel) ⟨Nat.le_of_ble_eq_true rfl, Nat.le_of_ble_eq_true rfl⟩) (va_recv hK hP (ci := 0) (q0 := 0) rfl rfl) hK hP hD hS hA rfl rfl rfl (by decide) (by decide) (by decide) rfl hl.1 rfl (Nat.le_of_ble_eq_true rfl) dX0_putNew_90 ⟨Nat.zero_le _, Nat.zero_le _⟩ (fun u H locs hw hP hD hS => ?_)
    obtain ⟨kS_11, vS_12, lhS_13, mvS_14⟩ := u
    try dsimp only at hw
    replace hP : va_P D vwCl (wS g q kS_11 vS_12 bS llS lvS lhS_13 mvS_14) H := hP
    replace hD : va_D A (wS g q kS_11 vS_12 bS llS lvS lhS_13 mvS_14) := hD
    refine lv_iconst (v := 1) hx hb dX0_putNew_93 (by decide) ?_
    exact q_zret (kS_11, vS_12, lvS, lhS_13, mvS_14) hx hb hr (by decide) hlocks hK dX0_putNew_94 hS hP hD hw
  · replace hw := hw.1 c_3
    refine lv_aload_n hx hb dX0_putNew_21 rfl (lv_at hl 2 rfl) ?_
    refine q_callVi (As := []) (rest := []) (wr := []) [0, 1, 2, 3] [] ⟨hx, hb, hml, hown, hts⟩ (c_S_cells l D g q kS vS bS llS lvS lhS mvS  _ hw _) (cwV 0 hts gX0_putNew_X0_cells rfl rfl rfl (by decide +kernel) ⟨Nat.le_of_ble_eq_true rfl, Nat.le_of_ble_eq_true rfl⟩) (va_recv hK hP (ci := 0) (q0 := 0) rfl rfl) hK hP hD hS hA rfl rfl rfl (by decide) (by decide) (by decide) rfl hl.1 rfl (Nat.le_of_ble_eq_true rfl) dX0_putNew_22 ⟨Nat.zero_le _, Nat.zero_le _⟩ (fun r_15 u H locs hw hP hD hS => ?_)
    try dsimp only at hw
    replace hP : va_P D vwCl (wS g q kS vS bS llS lvS lhS mvS) H := hP
    replace hD : va_D A (wS g q kS vS bS llS lvS lhS mvS) := hD
    refine lv_sipush (v := 512) hx hb dX0_putNew_25 (by decide) ?_
    refine lv_icmp_ne (tgt := 33) hx hb dX0_putNew_28 (by decide) (fun c_16 => ?_) (fun c_16 => ?_)
    · replace hw := hw.2 c_16
      refine lv_aload_n hx hb dX0_putNew_33 rfl (lv_at hl 2 rfl) ?_
      refine lv_dup hx hb dX0_putNew_34 rfl ?_
      refine va_get (D := D) (ci := 0) (v := .int lvS) (C := RX0) (T := TX0) (N := 7) hx hb hts (fun w h => List.mem_cons_of_mem _ (iX0 w h)) hown hK hP 0 rfl rfl 4 (by decide) hf_levels (fun _ h9 => h9) rfl dX0_putNew_35 ?_
      refine lv_iconst (v := 1) hx hb dX0_putNew_38 (by decide) ?_
      refine lv_iadd hx hb dX0_putNew_39 ?_
      refine va_put (D := D) (ci := 0) (v := .int (lvS + 1)) (ty := .int) (C := RX0) (T := TX0) (N := 7) hx hb hts (fun w h => List.mem_cons_of_mem _ (iX0 w h)) tyX0 tyX0_ok nmX0 hown hK hP hD hS 0 rfl rfl 4 (by decide) hf_levels (fun _ h9 => h9) rfl (by decide +kernel) rfl rfl (Nat.le_of_ble_eq_true rfl) dX0_putNew_40 (fun H locs hP hD hS => ?_)
      replace hP : va_P D vwCl (wS g q kS vS bS llS (lvS + 1) lhS mvS) H := hP
      replace hD : va_D A (wS g q kS vS bS llS (lvS + 1) lhS mvS) := hD
      refine lv_aload_n hx hb dX0_putNew_43 rfl (lv_at hl 2 rfl) ?_
      refine va_get (D := D) (ci := 0) (v := .int (lvS + 1)) (C := RX0) (T := TX0) (N := 7) hx hb hts (fun w h => List.mem_cons_of_mem _ (iX0 w h)) hown hK hP 0 rfl rfl 4 (by decide) hf_levels (fun _ h9 => h9) rfl dX0_putNew_44 ?_
      refine lv_istore (lv' := [(6, .int (lvS + 1)), (5, .int r_1), (0, .ref (g 0)), (1, .long a1), (3, .long a3)]) hx hb dX0_putNew_47 hl (by decide) rfl (fun ls hl => ?_)
      refine lv_iload hx hb dX0_putNew_49 (lv_at hl 1 rfl) ?_
      refine lv_iload hx hb dX0_putNew_51 (lv_at hl 0 rfl) ?_
      refine q_callSi (As := [.int r_1, .int (lvS + 1)]) (rest := []) (wr := (wS g q kS vS bS llS (lvS + 1) lhS mvS)) [] [0, 1, 2, 3] ⟨hx, hb, hml, hown, hts⟩ (c_S_firstCell l D r_1 (lvS + 1) _ hw _) (va_cwS 2 hts gX0_putNew_X0_firstCell rfl rfl rfl (by decide +kernel) ⟨Nat.le_of_ble_eq_true rfl, Nat.le_of_ble_eq_true rfl⟩) (hK.sub (tys' := []) [] rfl) hP hD hS hA rfl rfl rfl (by decide) (by decide) (by decide) rfl hl.1 rfl (Nat.le_of_ble_eq_true rfl) dX0_putNew_53 ⟨Nat.zero_le _, Nat.zero_le _⟩ (fun r_17 u H locs hw hP hD hS => ?_)
      try dsimp only at hw
      replace hP : va_P D vwCl (wS g q kS vS bS llS (lvS + 1) lhS mvS) H := hP
      replace hD : va_D A (wS g q kS vS bS llS (lvS + 1) lhS mvS) := hD
      refine lv_istore (lv' := [(7, .int r_17), (6, .int (lvS + 1)), (5, .int r_1), (0, .ref (g 0)), (1, .long a1), (3, .long a3)]) hx hb dX0_putNew_56 hl (by decide) rfl (fun ls hl => ?_)
      refine lv_aload_n hx hb dX0_putNew_58 rfl (lv_at hl 3 rfl) ?_
      refine lv_iload hx hb dX0_putNew_59 (lv_at hl 0 rfl) ?_
      refine lv_iload hx hb dX0_putNew_61 (lv_at hl 1 rfl) ?_
      refine q_callSi (As := [.int (lvS + 1)]) (rest := [.int r_17, .ref (g 0)]) (wr := (wS g q kS vS bS llS (lvS + 1) lhS mvS)) [] [0, 1, 2, 3] ⟨hx, hb, hml, hown, hts⟩ (c_S_windowCells l D (lvS + 1) _ hw _) (va_cwS 1 hts gX0_putNew_X0_windowCells rfl rfl rfl (by decide +kernel) ⟨Nat.le_of_ble_eq_true rfl, Nat.le_of_ble_eq_true rfl⟩) (hK.sub (tys' := []) [] rfl) hP hD hS hA rfl rfl rfl (by decide) (by decide) (by decide) rfl hl.1 rfl (Nat.le_of_ble_eq_true rfl) dX0_putNew_63 ⟨Nat.zero_le _, Nat.zero_le _⟩ (fun r_18 u H locs hw hP hD hS => ?_)
      try dsimp only at hw
      replace hP : va_P D vwCl (wS g q kS vS bS llS (lvS + 1) lhS mvS) H := hP
      replace hD : va_D A (wS g q kS vS bS llS (lvS + 1) lhS mvS) := hD
      refine q_callVi (As := [.int r_17, .int r_18]) (rest := []) (wr := []) [0, 1, 2, 3] [] ⟨hx, hb, hml, hown, hts⟩ (c_S_pack l D g q kS vS bS llS (lvS + 1) lhS mvS r_17 r_18 _ hw _) (cwV 2 hts gX0_putNew_X0_pack rfl rfl rfl (by decide +kernel) ⟨Nat.le_of_ble_eq_true rfl, Nat.le_of_ble_eq_true rfl⟩) (va_recv hK hP (ci := 0) (q0 := 0) rfl rfl) hK hP hD hS hA rfl rfl rfl (by decide) (by decide) (by decide) rfl hl.1 rfl (Nat.le_of_ble_eq_true rfl) dX0_putNew_66 ⟨Nat.zero_le _, Nat.zero_le _⟩ (fun r_19 u H locs hw hP hD hS => ?_)
      obtain ⟨kS_20, vS_21⟩ := u
      try dsimp only at hw
      replace hP : va_P D vwCl (wS g q kS_20 vS_21 bS llS (lvS + 1) lhS mvS) H := hP
      replace hD : va_D A (wS g q kS_20 vS_21 bS llS (lvS + 1) lhS mvS) := hD
      refine lv_istore (lv' := [(8, .int r_19), (7, .int r_17), (6, .int (lvS + 1)), (5, .int r_1), (0, .ref (g 0)), (1, .long a1), (3, .long a3)]) hx hb dX0_putNew_69 hl (by decide) rfl (fun ls hl => ?_)
      refine lv_aload_n hx hb dX0_putNew_71 rfl (lv_at hl 4 rfl) ?_
      refine lv_iload hx hb dX0_putNew_72 (lv_at hl 1 rfl) ?_
      refine lv_iload hx hb dX0_putNew_74 (lv_at hl 0 rfl) ?_
      refine lv_lload_n hx hb dX0_putNew_76 rfl (lv_at hl 5 rfl) ?_
      refine lv_lload_n hx hb dX0_putNew_77 rfl (lv_at hl 6 rfl) ?_
      refine q_callVv (As := [.int r_17, .int r_19, .long a1, .long a3]) (rest := []) (wr := []) [0, 1, 2, 3] [] ⟨hx, hb, hml, hown, hts⟩ (c_S_insertPacked l D g q kS_20 vS_21 bS llS (lvS + 1) lhS mvS r_17 r_19 a1 a3 _ hw _) (cwV 4 hts gX0_putNew_X0_insertPacked rfl rfl rfl (by decide +kernel) ⟨Nat.le_of_ble_eq_true rfl, Nat.le_of_ble_eq_true rfl⟩) (va_recv hK hP (ci := 0) (q0 := 0) rfl rfl) hK hP hD hS hA rfl rfl rfl (by decide) (by decide) (by decide) rfl hl.1 rfl (Nat.le_of_ble_eq_true rfl) dX0_putNew_78 ⟨Nat.zero_le _, Nat.zero_le _⟩ (fun u H locs hw hP hD hS => ?_)
      obtain ⟨kS_22, vS_23⟩ := u
      try dsimp only at hw
      replace hP : va_P D vwCl (wS g q kS_22 vS_23 bS llS (lvS + 1) lhS mvS) H := hP
      replace hD : va_D A (wS g q kS_22 vS_23 bS llS (lvS + 1) lhS mvS) := hD
      refine lv_aload_n hx hb dX0_putNew_81 rfl (lv_at hl 4 rfl) ?_
      refine lv_iload hx hb dX0_putNew_82 (lv_at hl 1 rfl) ?_
      refine lv_iload hx hb dX0_putNew_84 (lv_at hl 2 rfl) ?_
      refine lv_iload hx hb dX0_putNew_86 (lv_at hl 0 rfl) ?_
      refine lv_iconst (v := 1) hx hb dX0_putNew_88 (by decide) ?_
      refine lv_iadd hx hb dX0_putNew_89 ?_
      refine q_callVv (As := [.int r_17, .int (lvS + 1), .int (r_19 + 1)]) (rest := []) (wr := []) [0, 1, 2, 3] [] ⟨hx, hb, hml, hown, hts⟩ (c_S_spreadPacked l D g q kS_22 vS_23 bS llS (lvS + 1) lhS mvS r_17 (lvS + 1) (r_19 + 1) _ hw _) (cwV 3 hts gX0_putNew_X0_spreadPacked rfl rfl rfl (by decide +kernel) ⟨Nat.le_of_ble_eq_true rfl, Nat.le_of_ble_eq_true rfl⟩) (va_recv hK hP (ci := 0) (q0 := 0) rfl rfl) hK hP hD hS hA rfl rfl rfl (by decide) (by decide) (by decide) rfl hl.1 rfl (Nat.le_of_ble_eq_true rfl) dX0_putNew_90 ⟨Nat.zero_le _, Nat.zero_le _⟩ (fun u H locs hw hP hD hS => ?_)
      obtain ⟨kS_24, vS_25, lhS_26, mvS_27⟩ := u
      try dsimp only at hw
      replace hP : va_P D vwCl (wS g q kS_24 vS_25 bS llS (lvS + 1) lhS_26 mvS_27) H := hP
      replace hD : va_D A (wS g q kS_24 vS_25 bS llS (lvS + 1) lhS_26 mvS_27) := hD
      refine lv_iconst (v := 1) hx hb dX0_putNew_93 (by decide) ?_
      exact q_zret (kS_24, vS_25, (lvS + 1), lhS_26, mvS_27) hx hb hr (by decide) hlocks hK dX0_putNew_94 hS hP hD hw
    · replace hw := hw.1 c_16
      refine lv_iconst (v := 0) hx hb dX0_putNew_31 (by decide) ?_
      exact q_zret (kS, vS, lvS, lhS, mvS) hx hb hr (by decide) hlocks hK dX0_putNew_32 hS hP hD hw
set_option maxHeartbeats 4000000 in
set_option maxRecDepth 100000 in
theorem c_S_put (l : Launch) (D : va_G) (g : Nat → Nat) (q : Nat → ClassId) (kS : Nat → Int64) (vS : Nat → Int64) (bS : Nat → Int32) (llS : Int32) (lvS : Int32) (lhS : Int32) (mvS : Int64) (a1 : Int64) (a3 : Int64) (post : Int32 → (Nat → Int64) → (Nat → Int64) → (Int32) → (Int32) → (Int64) → Prop) (hw : wp_S_put kS vS lvS lhS mvS a1 a3 post) (sz : Nat) : Met l yX0_put wsX0_put ({ frames := 5, cells := 0, slots := 0, locals := 120 }) (qP D vwCl (tS q) (wS g q kS vS bS llS lvS lhS mvS) sz [.ref (g 0), .long a1, .long a3]) (va_Qi (fun r (u : (Nat → Int64) × (Nat → Int64) × (Int32) × (Int32) × (Int64)) => post r u.1 u.2.1 u.2.2.1 u.2.2.2.1 u.2.2.2.2) (qB D vwCl (tS q) (fun u : (Nat → Int64) × (Nat → Int64) × (Int32) × (Int32) × (Int64) => (wS g q u.1 u.2.1 bS llS u.2.2.1 u.2.2.2.1 u.2.2.2.2)) (va_A (wS g q kS vS bS llS lvS lhS mvS) sz)) (va_A (wS g q kS vS bS llS lvS lhS mvS) sz)) 0 0 (va_A (wS g q kS vS bS llS lvS lhS mvS) sz) := by
  refine q_enter (cc := cX0_put) (maxL := 6) (ret := (some .int)) (fun A => va_Qi (fun r (u : (Nat → Int64) × (Nat → Int64) × (Int32) × (Int32) × (Int64)) => post r u.1 u.2.1 u.2.2.1 u.2.2.2.1 u.2.2.2.2) (qB D vwCl (tS q) (fun u : (Nat → Int64) × (Nat → Int64) × (Int32) × (Int32) × (Int64) => (wS g q u.1 u.2.1 bS llS u.2.2.1 u.2.2.2.1 u.2.2.2.2)) A) A) (by decide +kernel) rfl (Nat.le_of_ble_eq_true rfl) ?_
  intro p e s m below meth c A ls hx hb hr hml hown hts hlocks hname hP hK hD hA hl
  replace hown : s.vm.findClass RX0 = some m.cls := hown
  replace hl : lv_has ls 6 [(0, .ref (g 0)), (1, .long a1), (3, .long a3)] := hl
  have hS : va_S A s.heap s.heap [] := va_S.rf
  have hf_values := hts _ (List.mem_cons_of_mem _ tfl_X0_21)
  unfold wp_S_put at hw
  refine lv_lload_n hx hb dX0_put_0 rfl (lv_at hl 1 rfl) ?_
  refine lv_ldc2 (v := NOK) hx hb hown (hts _ (List.mem_cons_of_mem _ tcn_X0_13)) dX0_put_1 ?_
  refine q_lc_ne (tgt := 10) hx hb dX0_put_4 dX0_put_5 (by decide) (fun c_1 => ?_) (fun c_1 => ?_)
  · replace hw := hw.2 c_1
    refine lv_aload_n hx hb dX0_put_10 rfl (lv_at hl 0 rfl) ?_
    refine lv_lload_n hx hb dX0_put_11 rfl (lv_at hl 1 rfl) ?_
    refine q_callVi (As := [.long a1]) (rest := []) (wr := []) [0, 1, 2, 3] [] ⟨hx, hb, hml, hown, hts⟩ (c_S_cellOf l D g q kS vS bS llS lvS lhS mvS a1 _ hw _) (cwV 1 hts gX0_put_X0_cellOf rfl rfl rfl (by decide +kernel) ⟨Nat.le_of_ble_eq_true rfl, Nat.le_of_ble_eq_true rfl⟩) (va_recv hK hP (ci := 0) (q0 := 0) rfl rfl) hK hP hD hS hA rfl rfl rfl (by decide) (by decide) (by decide) rfl hl.1 rfl (Nat.le_of_ble_eq_true rfl) dX0_put_12 ⟨Nat.zero_le _, Nat.zero_le _⟩ (fun r_2 u H locs hw hP hD hS => ?_)
    try dsimp only at hw
    replace hP : va_P D vwCl (wS g q kS vS bS llS lvS lhS mvS) H := hP
    replace hD : va_D A (wS g q kS vS bS llS lvS lhS mvS) := hD
    refine lv_istore (lv' := [(5, .int r_2), (0, .ref (g 0)), (1, .long a1), (3, .long a3)]) hx hb dX0_put_15 hl (by decide) rfl (fun ls hl => ?_)
    refine lv_iload hx hb dX0_put_17 (lv_at hl 0 rfl) ?_
    refine lv_iconst (v := (-1)) hx hb dX0_put_19 (by decide) ?_
    refine lv_icmp_eq (tgt := 33) hx hb dX0_put_20 (by decide) (fun c_3 => ?_) (fun c_3 => ?_)
    · replace hw := hw.1 c_3
      refine lv_aload_n hx hb dX0_put_33 rfl (lv_at hl 1 rfl) ?_
      refine lv_lload_n hx hb dX0_put_34 rfl (lv_at hl 2 rfl) ?_
      refine lv_lload_n hx hb dX0_put_35 rfl (lv_at hl 3 rfl) ?_
      refine q_callVi (As := [.long a1, .long a3]) (rest := []) (wr := []) [0, 1, 2, 3] [] ⟨hx, hb, hml, hown, hts⟩ (c_S_putNew l D g q kS vS bS llS lvS lhS mvS a1 a3 _ hw _) (cwV 2 hts gX0_put_X0_putNew rfl rfl rfl (by decide +kernel) ⟨Nat.le_of_ble_eq_true rfl, Nat.le_of_ble_eq_true rfl⟩) (va_recv hK hP (ci := 0) (q0 := 0) rfl rfl) hK hP hD hS hA rfl rfl rfl (by decide) (by decide) (by decide) rfl hl.1 rfl (Nat.le_of_ble_eq_true rfl) dX0_put_36 ⟨Nat.zero_le _, Nat.zero_le _⟩ (fun r_4 u H locs hw hP hD hS => ?_)
      obtain ⟨kS_5, vS_6, lvS_7, lhS_8, mvS_9⟩ := u
      try dsimp only at hw
      replace hP : va_P D vwCl (wS g q kS_5 vS_6 bS llS lvS_7 lhS_8 mvS_9) H := hP
      replace hD : va_D A (wS g q kS_5 vS_6 bS llS lvS_7 lhS_8 mvS_9) := hD
      refine lv_if_eq (tgt := 46) hx hb dX0_put_39 (by decide) (fun c_10 => ?_) (fun c_10 => ?_)
      · replace hw := hw.1 c_10
        refine lv_iconst (v := (-1)) hx hb dX0_put_46 (by decide) ?_
        exact q_iret (kS_5, vS_6, lvS_7, lhS_8, mvS_9) hx hb hr hlocks hK dX0_put_47 hS hP hD hw
      · replace hw := hw.2 c_10
        refine lv_iconst (v := 1) hx hb dX0_put_42 (by decide) ?_
        refine lv_goto (tgt := 47) hx hb dX0_put_43 (by decide) ?_
        exact q_iret (kS_5, vS_6, lvS_7, lhS_8, mvS_9) hx hb hr hlocks hK dX0_put_47 hS hP hD hw
    · replace hw := hw.2 c_3
      refine lv_aload_n hx hb dX0_put_23 rfl (lv_at hl 1 rfl) ?_
      refine va_get (D := D) (ci := 0) (v := .ref (g 2)) (C := RX0) (T := TX0) (N := 7) hx hb hts (fun w h => List.mem_cons_of_mem _ (iX0 w h)) hown hK hP 0 rfl rfl 1 (by decide) hf_values (fun _ h9 => h9) rfl dX0_put_24 ?_
      refine lv_iload hx hb dX0_put_27 (lv_at hl 0 rfl) ?_
      refine lv_lload_n hx hb dX0_put_29 rfl (lv_at hl 3 rfl) ?_
      obtain ⟨hi_11, hw⟩ := hw
      refine va_last hx hb hK hP hD hS 2 1 rfl rfl hi_11 dX0_put_30 (fun H locs hP hD hS => ?_)
      replace hP : va_P D vwCl (wS g q kS (vp_updL vS r_2.toNatClampNeg a3) bS llS lvS lhS mvS) H := hP
      replace hD : va_D A (wS g q kS (vp_updL vS r_2.toNatClampNeg a3) bS llS lvS lhS mvS) := hD
      refine lv_iconst (v := 0) hx hb dX0_put_31 (by decide) ?_
      exact q_iret (kS, (vp_updL vS r_2.toNatClampNeg a3), lvS, lhS, mvS) hx hb hr hlocks hK dX0_put_32 hS hP hD hw
  · replace hw := hw.1 c_1
    refine lv_iconst (v := (-1)) hx hb dX0_put_8 (by decide) ?_
    exact q_iret (kS, vS, lvS, lhS, mvS) hx hb hr hlocks hK dX0_put_9 hS hP hD hw
set_option maxHeartbeats 4000000 in
set_option maxRecDepth 100000 in
theorem c_S_fill (l : Launch) (D : va_G) (g : Nat → Nat) (q : Nat → ClassId) (kS : Nat → Int64) (vS : Nat → Int64) (bS : Nat → Int32) (llS : Int32) (lvS : Int32) (lhS : Int32) (mvS : Int64) (a1 : Int64) (a3 : Int64) (a5 : Int32) (post : Int32 → (Nat → Int64) → (Nat → Int64) → (Int32) → (Int32) → (Int64) → Prop) (hw : wp_S_fill kS vS lvS lhS mvS a1 a3 a5 post) (sz : Nat) : Met l yX0_fill wsX0_fill ({ frames := 6, cells := 0, slots := 0, locals := 145 }) (qP D vwCl (tS q) (wS g q kS vS bS llS lvS lhS mvS) sz [.ref (g 0), .long a1, .long a3, .int a5]) (va_Qi (fun r (u : (Nat → Int64) × (Nat → Int64) × (Int32) × (Int32) × (Int64)) => post r u.1 u.2.1 u.2.2.1 u.2.2.2.1 u.2.2.2.2) (qB D vwCl (tS q) (fun u : (Nat → Int64) × (Nat → Int64) × (Int32) × (Int32) × (Int64) => (wS g q u.1 u.2.1 bS llS u.2.2.1 u.2.2.2.1 u.2.2.2.2)) (va_A (wS g q kS vS bS llS lvS lhS mvS) sz)) (va_A (wS g q kS vS bS llS lvS lhS mvS) sz)) 0 0 (va_A (wS g q kS vS bS llS lvS lhS mvS) sz) := by
  refine q_enter (cc := cX0_fill) (maxL := 9) (ret := (some .int)) (fun A => va_Qi (fun r (u : (Nat → Int64) × (Nat → Int64) × (Int32) × (Int32) × (Int64)) => post r u.1 u.2.1 u.2.2.1 u.2.2.2.1 u.2.2.2.2) (qB D vwCl (tS q) (fun u : (Nat → Int64) × (Nat → Int64) × (Int32) × (Int32) × (Int64) => (wS g q u.1 u.2.1 bS llS u.2.2.1 u.2.2.2.1 u.2.2.2.2)) A) A) (by decide +kernel) rfl (Nat.le_of_ble_eq_true rfl) ?_
  intro p e s m below meth c A ls hx hb hr hml hown hts hlocks hname hP hK hD hA hl
  replace hown : s.vm.findClass RX0 = some m.cls := hown
  replace hl : lv_has ls 9 [(0, .ref (g 0)), (1, .long a1), (3, .long a3), (5, .int a5)] := hl
  have hS : va_S A s.heap s.heap [] := va_S.rf
  have L20 : ∀ (x1 : Int64) (x3 : Int64) (x5 : Int32) (n : Nat) (x6 : Int32) (x7 : Int32) (kS : Nat → Int64) (vS : Nat → Int64) (lvS : Int32) (lhS : Int32) (mvS : Int64), wp_S_fill_L20 x1 x3 x5 post n x6 x7 kS vS lvS lhS mvS → ∀ (H : Heap) (locs : List Loc) (ls : Array Slot), va_P D vwCl (wS g q kS vS bS llS lvS lhS mvS) H → va_D A (wS g q kS vS bS llS lvS lhS mvS) → va_S A s.heap H locs → lv_has ls 9 [(0, .ref (g 0)), (1, .long x1), (3, .long x3), (5, .int x5), (6, .int x6), (7, .int x7)] → W p l e { frames := 6, cells := 0, slots := 0, locals := 145 } s m ([.ref (g 0), .long a1, .long a3, .int a5] : List Value).toArray below meth c H locs 0 0 (MQ below (va_Qi (fun r (u : (Nat → Int64) × (Nat → Int64) × (Int32) × (Int32) × (Int64)) => post r u.1 u.2.1 u.2.2.1 u.2.2.2.1 u.2.2.2.2) (qB D vwCl (tS q) (fun u : (Nat → Int64) × (Nat → Int64) × (Int32) × (Int32) × (Int64) => (wS g q u.1 u.2.1 bS llS u.2.2.1 u.2.2.2.1 u.2.2.2.2)) A) A) ([.ref (g 0), .long a1, .long a3, .int a5] : List Value).toArray s 0 0 A) (F0 m 20 ls []) := by
    intro x1 x3 x5 n
    induction n with
    | zero => intro x6 x7 kS vS lvS lhS mvS hw; exact False.elim (show False from hw)
    | succ n ih =>
      intro x6 x7 kS vS lvS lhS mvS hw H locs ls hP hD hS hl
      rw [wp_S_fill_L20] at hw
      refine lv_iload hx hb dX0_fill_20 (lv_at hl 5 rfl) ?_
      refine lv_iload hx hb dX0_fill_22 (lv_at hl 3 rfl) ?_
      refine lv_icmp_ge (tgt := 65) hx hb dX0_fill_24 (by decide) (fun c_3 => ?_) (fun c_3 => ?_)
      · replace hw := hw.1 c_3
        refine lv_iload hx hb dX0_fill_65 (lv_at hl 4 rfl) ?_
        exact q_iret (kS, vS, lvS, lhS, mvS) hx hb hr hlocks hK dX0_fill_67 hS hP hD hw
      · replace hw := hw.2 c_3
        refine lv_aload_n hx hb dX0_fill_27 rfl (lv_at hl 0 rfl) ?_
        refine lv_lload_n hx hb dX0_fill_28 rfl (lv_at hl 1 rfl) ?_
        refine lv_iload hx hb dX0_fill_29 (lv_at hl 5 rfl) ?_
        refine lv_i2l hx hb dX0_fill_31 rfl ?_
        refine lv_lload_n hx hb dX0_fill_32 rfl (lv_at hl 2 rfl) ?_
        refine lv_lmul hx hb dX0_fill_33 ?_
        refine lv_ladd hx hb dX0_fill_34 ?_
        refine lv_iload hx hb dX0_fill_35 (lv_at hl 5 rfl) ?_
        refine lv_i2l hx hb dX0_fill_37 rfl ?_
        refine q_callVi (As := [.long (x1 + (x7.toInt64 * x3)), .long x7.toInt64]) (rest := []) (wr := []) [0, 1, 2, 3] [] ⟨hx, hb, hml, hown, hts⟩ (c_S_put l D g q kS vS bS llS lvS lhS mvS (x1 + (x7.toInt64 * x3)) x7.toInt64 _ hw _) (cwV 2 hts gX0_fill_X0_put rfl rfl rfl (by decide +kernel) ⟨Nat.le_of_ble_eq_true rfl, Nat.le_of_ble_eq_true rfl⟩) (va_recv hK hP (ci := 0) (q0 := 0) rfl rfl) hK hP hD hS hA rfl rfl rfl (by decide) (by decide) (by decide) rfl hl.1 rfl (Nat.le_of_ble_eq_true rfl) dX0_fill_38 ⟨Nat.zero_le _, Nat.zero_le _⟩ (fun r_4 u H locs hw hP hD hS => ?_)
        obtain ⟨kS_5, vS_6, lvS_7, lhS_8, mvS_9⟩ := u
        try dsimp only at hw
        replace hP : va_P D vwCl (wS g q kS_5 vS_6 bS llS lvS_7 lhS_8 mvS_9) H := hP
        replace hD : va_D A (wS g q kS_5 vS_6 bS llS lvS_7 lhS_8 mvS_9) := hD
        refine lv_istore (lv' := [(8, .int r_4), (0, .ref (g 0)), (1, .long x1), (3, .long x3), (5, .int x5), (6, .int x6), (7, .int x7)]) hx hb dX0_fill_41 hl (by decide) rfl (fun ls hl => ?_)
        refine lv_iload hx hb dX0_fill_43 (lv_at hl 0 rfl) ?_
        refine lv_iconst (v := (-1)) hx hb dX0_fill_45 (by decide) ?_
        refine lv_icmp_ne (tgt := 52) hx hb dX0_fill_46 (by decide) (fun c_10 => ?_) (fun c_10 => ?_)
        · replace hw := hw.2 c_10
          refine lv_iload hx hb dX0_fill_52 (lv_at hl 5 rfl) ?_
          refine lv_iload hx hb dX0_fill_54 (lv_at hl 0 rfl) ?_
          refine lv_iadd hx hb dX0_fill_56 ?_
          refine lv_istore (lv' := [(6, .int (x6 + r_4)), (8, .int r_4), (0, .ref (g 0)), (1, .long x1), (3, .long x3), (5, .int x5), (7, .int x7)]) hx hb dX0_fill_57 hl (by decide) rfl (fun ls hl => ?_)
          refine lv_iinc (v := (x7 + 1)) (lv' := [(7, .int (x7 + 1)), (6, .int (x6 + r_4)), (8, .int r_4), (0, .ref (g 0)), (1, .long x1), (3, .long x3), (5, .int x5)]) hx hb dX0_fill_59 hl (k := 6) rfl rfl (by decide) rfl (fun ls hl => ?_)
          refine lv_goto (tgt := 20) hx hb dX0_fill_62 (by decide) ?_
          exact ih (x6 + r_4) (x7 + 1) kS_5 vS_6 lvS_7 lhS_8 mvS_9 hw _ _ ls hP hD hS (lv_sub hl [3, 4, 5, 6, 1, 0] rfl)
        · replace hw := hw.1 c_10
          refine lv_iload hx hb dX0_fill_49 (lv_at hl 5 rfl) ?_
          exact q_iret (kS_5, vS_6, lvS_7, lhS_8, mvS_9) hx hb hr hlocks hK dX0_fill_51 hS hP hD hw
  unfold wp_S_fill at hw
  refine lv_iload hx hb dX0_fill_0 (lv_at hl 3 rfl) ?_
  refine lv_if_lt (tgt := 12) hx hb dX0_fill_2 (by decide) (fun c_1 => ?_) (fun c_1 => ?_)
  · replace hw := hw.1 c_1
    refine lv_iconst (v := (-1)) hx hb dX0_fill_12 (by decide) ?_
    exact q_iret (kS, vS, lvS, lhS, mvS) hx hb hr hlocks hK dX0_fill_13 hS hP hD hw
  · replace hw := hw.2 c_1
    refine lv_iload hx hb dX0_fill_5 (lv_at hl 3 rfl) ?_
    refine lv_bipush (v := 64) hx hb dX0_fill_7 (by decide) ?_
    refine lv_icmp_le (tgt := 14) hx hb dX0_fill_9 (by decide) (fun c_2 => ?_) (fun c_2 => ?_)
    · replace hw := hw.1 c_2
      refine lv_iconst (v := 0) hx hb dX0_fill_14 (by decide) ?_
      refine lv_istore (lv' := [(6, .int 0), (0, .ref (g 0)), (1, .long a1), (3, .long a3), (5, .int a5)]) hx hb dX0_fill_15 hl (by decide) rfl (fun ls hl => ?_)
      refine lv_iconst (v := 0) hx hb dX0_fill_17 (by decide) ?_
      refine lv_istore (lv' := [(7, .int 0), (6, .int 0), (0, .ref (g 0)), (1, .long a1), (3, .long a3), (5, .int a5)]) hx hb dX0_fill_18 hl (by decide) rfl (fun ls hl => ?_)
      obtain ⟨n0, hw⟩ := hw
      exact L20 a1 a3 a5 n0 0 0 kS vS lvS lhS mvS hw _ _ ls hP hD hS (lv_sub hl [2, 3, 4, 5, 1, 0] rfl)
    · replace hw := hw.2 c_2
      refine lv_iconst (v := (-1)) hx hb dX0_fill_12 (by decide) ?_
      exact q_iret (kS, vS, lvS, lhS, mvS) hx hb hr hlocks hK dX0_fill_13 hS hP hD hw
set_option maxHeartbeats 4000000 in
set_option maxRecDepth 100000 in
theorem c_S_fewestKeys (l : Launch) (D : va_G) (g : Nat → Nat) (q : Nat → ClassId) (kS : Nat → Int64) (vS : Nat → Int64) (bS : Nat → Int32) (llS : Int32) (lvS : Int32) (lhS : Int32) (mvS : Int64) (a1 : Int32) (post : Int32 → Prop) (hw : wp_S_fewestKeys lvS a1 post) (sz : Nat) : Met l yX0_fewestKeys wsX0_fewestKeys ({ frames := 1, cells := 0, slots := 0, locals := 20 }) (qP D vwCl (tS q) (wS g q kS vS bS llS lvS lhS mvS) sz [.ref (g 0), .int a1]) (va_Qi (fun r (_ : Unit) => post r) (qB D vwCl (tS q) (fun _ : Unit => (wS g q kS vS bS llS lvS lhS mvS)) (va_A (wS g q kS vS bS llS lvS lhS mvS) sz)) (va_A (wS g q kS vS bS llS lvS lhS mvS) sz)) 0 0 (va_A (wS g q kS vS bS llS lvS lhS mvS) sz) := by
  refine q_enter (cc := cX0_fewestKeys) (maxL := 3) (ret := (some .int)) (fun A => va_Qi (fun r (_ : Unit) => post r) (qB D vwCl (tS q) (fun _ : Unit => (wS g q kS vS bS llS lvS lhS mvS)) A) A) (by decide +kernel) rfl (Nat.le_of_ble_eq_true rfl) ?_
  intro p e s m below meth c A ls hx hb hr hml hown hts hlocks hname hP hK hD hA hl
  replace hown : s.vm.findClass RX0 = some m.cls := hown
  replace hl : lv_has ls 3 [(0, .ref (g 0)), (1, .int a1)] := hl
  have hS : va_S A s.heap s.heap [] := va_S.rf
  have hf_levels := hts _ (List.mem_cons_of_mem _ tfl_X0_32)
  unfold wp_S_fewestKeys at hw
  refine lv_bipush (v := 8) hx hb dX0_fewestKeys_0 (by decide) ?_
  refine lv_aload_n hx hb dX0_fewestKeys_2 rfl (lv_at hl 0 rfl) ?_
  refine va_get (D := D) (ci := 0) (v := .int lvS) (C := RX0) (T := TX0) (N := 7) hx hb hts (fun w h => List.mem_cons_of_mem _ (iX0 w h)) hown hK hP 0 rfl rfl 4 (by decide) hf_levels (fun _ h9 => h9) rfl dX0_fewestKeys_3 ?_
  refine lv_imul hx hb dX0_fewestKeys_6 ?_
  refine lv_istore_n (lv' := [(2, .int (8 * lvS)), (0, .ref (g 0)), (1, .int a1)]) hx hb dX0_fewestKeys_7 rfl hl (by decide) rfl (fun ls hl => ?_)
  refine lv_iload_n hx hb dX0_fewestKeys_8 rfl (lv_at hl 2 rfl) ?_
  refine q_callSi (As := [.int a1]) (rest := []) (wr := (wS g q kS vS bS llS lvS lhS mvS)) [] [0, 1, 2, 3] ⟨hx, hb, hml, hown, hts⟩ (c_S_windowCells l D a1 _ hw _) (va_cwS 1 hts gX0_fewestKeys_X0_windowCells rfl rfl rfl (by decide +kernel) ⟨Nat.le_of_ble_eq_true rfl, Nat.le_of_ble_eq_true rfl⟩) (hK.sub (tys' := []) [] rfl) hP hD hS hA rfl rfl rfl (by decide) (by decide) (by decide) rfl hl.1 rfl (Nat.le_of_ble_eq_true rfl) dX0_fewestKeys_9 ⟨Nat.zero_le _, Nat.zero_le _⟩ (fun r_1 u H locs hw hP hD hS => ?_)
  try dsimp only at hw
  replace hP : va_P D vwCl (wS g q kS vS bS llS lvS lhS mvS) H := hP
  replace hD : va_D A (wS g q kS vS bS llS lvS lhS mvS) := hD
  refine lv_aload_n hx hb dX0_fewestKeys_12 rfl (lv_at hl 1 rfl) ?_
  refine va_get (D := D) (ci := 0) (v := .int lvS) (C := RX0) (T := TX0) (N := 7) hx hb hts (fun w h => List.mem_cons_of_mem _ (iX0 w h)) hown hK hP 0 rfl rfl 4 (by decide) hf_levels (fun _ h9 => h9) rfl dX0_fewestKeys_13 ?_
  refine lv_iload_n hx hb dX0_fewestKeys_16 rfl (lv_at hl 2 rfl) ?_
  refine lv_iadd hx hb dX0_fewestKeys_17 ?_
  refine lv_imul hx hb dX0_fewestKeys_18 ?_
  refine lv_iload_n hx hb dX0_fewestKeys_19 rfl (lv_at hl 0 rfl) ?_
  refine lv_iadd hx hb dX0_fewestKeys_20 ?_
  refine lv_iconst (v := 1) hx hb dX0_fewestKeys_21 (by decide) ?_
  refine lv_isub hx hb dX0_fewestKeys_22 ?_
  refine lv_iload_n hx hb dX0_fewestKeys_23 rfl (lv_at hl 0 rfl) ?_
  obtain ⟨hz_2, hw⟩ := hw
  refine lv_idiv hx hb dX0_fewestKeys_24 hz_2 ?_
  exact q_iret () hx hb hr hlocks hK dX0_fewestKeys_25 hS hP hD hw
set_option maxHeartbeats 4000000 in
set_option maxRecDepth 100000 in
theorem c_S_heightWithEnough (l : Launch) (D : va_G) (g : Nat → Nat) (q : Nat → ClassId) (kS : Nat → Int64) (vS : Nat → Int64) (bS : Nat → Int32) (llS : Int32) (lvS : Int32) (lhS : Int32) (mvS : Int64) (a1 : Int32) (post : Int32 → Prop) (hw : wp_S_heightWithEnough kS lvS a1 post) (sz : Nat) : Met l yX0_heightWithEnough wsX0_heightWithEnough ({ frames := 3, cells := 0, slots := 0, locals := 63 }) (qP D vwCl (tS q) (wS g q kS vS bS llS lvS lhS mvS) sz [.ref (g 0), .int a1]) (va_Qi (fun r (_ : Unit) => post r) (qB D vwCl (tS q) (fun _ : Unit => (wS g q kS vS bS llS lvS lhS mvS)) (va_A (wS g q kS vS bS llS lvS lhS mvS) sz)) (va_A (wS g q kS vS bS llS lvS lhS mvS) sz)) 0 0 (va_A (wS g q kS vS bS llS lvS lhS mvS) sz) := by
  refine q_enter (cc := cX0_heightWithEnough) (maxL := 3) (ret := (some .int)) (fun A => va_Qi (fun r (_ : Unit) => post r) (qB D vwCl (tS q) (fun _ : Unit => (wS g q kS vS bS llS lvS lhS mvS)) A) A) (by decide +kernel) rfl (Nat.le_of_ble_eq_true rfl) ?_
  intro p e s m below meth c A ls hx hb hr hml hown hts hlocks hname hP hK hD hA hl
  replace hown : s.vm.findClass RX0 = some m.cls := hown
  replace hl : lv_has ls 3 [(0, .ref (g 0)), (1, .int a1)] := hl
  have hS : va_S A s.heap s.heap [] := va_S.rf
  have hf_levels := hts _ (List.mem_cons_of_mem _ tfl_X0_32)
  have L2 : ∀ (x1 : Int32) (n : Nat) (x2 : Int32), wp_S_heightWithEnough_L2 kS lvS x1 post n x2 → ∀ (H : Heap) (locs : List Loc) (ls : Array Slot), va_P D vwCl (wS g q kS vS bS llS lvS lhS mvS) H → va_D A (wS g q kS vS bS llS lvS lhS mvS) → va_S A s.heap H locs → lv_has ls 3 [(0, .ref (g 0)), (1, .int x1), (2, .int x2)] → W p l e { frames := 3, cells := 0, slots := 0, locals := 63 } s m ([.ref (g 0), .int a1] : List Value).toArray below meth c H locs 0 0 (MQ below (va_Qi (fun r (_ : Unit) => post r) (qB D vwCl (tS q) (fun _ : Unit => (wS g q kS vS bS llS lvS lhS mvS)) A) A) ([.ref (g 0), .int a1] : List Value).toArray s 0 0 A) (F0 m 2 ls []) := by
    intro x1 n
    induction n with
    | zero => intro x2 hw; exact False.elim (show False from hw)
    | succ n ih =>
      intro x2 hw H locs ls hP hD hS hl
      rw [wp_S_heightWithEnough_L2] at hw
      refine lv_iload_n hx hb dX0_heightWithEnough_2 rfl (lv_at hl 2 rfl) ?_
      refine lv_aload_n hx hb dX0_heightWithEnough_3 rfl (lv_at hl 0 rfl) ?_
      refine va_get (D := D) (ci := 0) (v := .int lvS) (C := RX0) (T := TX0) (N := 7) hx hb hts (fun w h => List.mem_cons_of_mem _ (iX0 w h)) hown hK hP 0 rfl rfl 4 (by decide) hf_levels (fun _ h9 => h9) rfl dX0_heightWithEnough_4 ?_
      refine lv_icmp_gt (tgt := 32) hx hb dX0_heightWithEnough_7 (by decide) (fun c_1 => ?_) (fun c_1 => ?_)
      · replace hw := hw.1 c_1
        refine lv_iconst (v := (-1)) hx hb dX0_heightWithEnough_32 (by decide) ?_
        exact q_iret () hx hb hr hlocks hK dX0_heightWithEnough_33 hS hP hD hw
      · replace hw := hw.2 c_1
        refine lv_aload_n hx hb dX0_heightWithEnough_10 rfl (lv_at hl 0 rfl) ?_
        refine lv_iload_n hx hb dX0_heightWithEnough_11 rfl (lv_at hl 1 rfl) ?_
        refine lv_iload_n hx hb dX0_heightWithEnough_12 rfl (lv_at hl 2 rfl) ?_
        refine q_callVi (As := [.int x1, .int x2]) (rest := []) (wr := []) [0, 1, 2, 3] [] ⟨hx, hb, hml, hown, hts⟩ (c_S_keysInWindow l D g q kS vS bS llS lvS lhS mvS x1 x2 _ hw _) (cwV 2 hts gX0_heightWithEnough_X0_keysInWindow rfl rfl rfl (by decide +kernel) ⟨Nat.le_of_ble_eq_true rfl, Nat.le_of_ble_eq_true rfl⟩) (va_recv hK hP (ci := 0) (q0 := 0) rfl rfl) hK hP hD hS hA rfl rfl rfl (by decide) (by decide) (by decide) rfl hl.1 rfl (Nat.le_of_ble_eq_true rfl) dX0_heightWithEnough_13 ⟨Nat.zero_le _, Nat.zero_le _⟩ (fun r_2 u H locs hw hP hD hS => ?_)
        try dsimp only at hw
        replace hP : va_P D vwCl (wS g q kS vS bS llS lvS lhS mvS) H := hP
        replace hD : va_D A (wS g q kS vS bS llS lvS lhS mvS) := hD
        refine lv_aload_n hx hb dX0_heightWithEnough_16 rfl (lv_at hl 0 rfl) ?_
        refine lv_iload_n hx hb dX0_heightWithEnough_17 rfl (lv_at hl 2 rfl) ?_
        refine q_callVi (As := [.int x2]) (rest := [.int r_2]) (wr := []) [0, 1, 2, 3] [] ⟨hx, hb, hml, hown, hts⟩ (c_S_fewestKeys l D g q kS vS bS llS lvS lhS mvS x2 _ hw _) (cwV 1 hts gX0_heightWithEnough_X0_fewestKeys rfl rfl rfl (by decide +kernel) ⟨Nat.le_of_ble_eq_true rfl, Nat.le_of_ble_eq_true rfl⟩) (va_recv hK hP (ci := 0) (q0 := 0) rfl rfl) hK hP hD hS hA rfl rfl rfl (by decide) (by decide) (by decide) rfl hl.1 rfl (Nat.le_of_ble_eq_true rfl) dX0_heightWithEnough_18 ⟨Nat.zero_le _, Nat.zero_le _⟩ (fun r_3 u H locs hw hP hD hS => ?_)
        try dsimp only at hw
        replace hP : va_P D vwCl (wS g q kS vS bS llS lvS lhS mvS) H := hP
        replace hD : va_D A (wS g q kS vS bS llS lvS lhS mvS) := hD
        refine lv_icmp_lt (tgt := 26) hx hb dX0_heightWithEnough_21 (by decide) (fun c_4 => ?_) (fun c_4 => ?_)
        · replace hw := hw.1 c_4
          refine lv_iinc (v := (x2 + 1)) (lv' := [(2, .int (x2 + 1)), (0, .ref (g 0)), (1, .int x1)]) hx hb dX0_heightWithEnough_26 hl (k := 2) rfl rfl (by decide) rfl (fun ls hl => ?_)
          refine lv_goto (tgt := 2) hx hb dX0_heightWithEnough_29 (by decide) ?_
          exact ih (x2 + 1) hw _ _ ls hP hD hS (lv_sub hl [1, 2, 0] rfl)
        · replace hw := hw.2 c_4
          refine lv_iload_n hx hb dX0_heightWithEnough_24 rfl (lv_at hl 2 rfl) ?_
          exact q_iret () hx hb hr hlocks hK dX0_heightWithEnough_25 hS hP hD hw
  unfold wp_S_heightWithEnough at hw
  refine lv_iconst (v := 0) hx hb dX0_heightWithEnough_0 (by decide) ?_
  refine lv_istore_n (lv' := [(2, .int 0), (0, .ref (g 0)), (1, .int a1)]) hx hb dX0_heightWithEnough_1 rfl hl (by decide) rfl (fun ls hl => ?_)
  obtain ⟨n0, hw⟩ := hw
  exact L2 a1 n0 0 hw _ _ ls hP hD hS (lv_sub hl [1, 2, 0] rfl)
