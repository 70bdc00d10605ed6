set_option maxHeartbeats 4000000 in
set_option maxRecDepth 100000 in
theorem c_M_lift (l : Launch) (D : va_G) (g : Nat → Nat) (q : Nat → ClassId) (leM : Int32) (ceM : Int32) (fM : Nat → Int32) (kM : Nat → Int64) (vM : Nat → Int64) (wiM : Int32) (moM : Int64) (waM : Int32) (wkM : Nat → Int64) (wvM : Nat → Int64) (a1 : Int32) (a2 : Int32) (post : (Nat → Int32) → (Int32) → (Nat → Int64) → (Nat → Int64) → Prop) (hw : wp_M_lift fM kM vM waM wkM wvM a1 a2 post) (sz : Nat) : Met l yX1_lift wsX1_lift ({ frames := 0, cells := 0, slots := 0, locals := 0 }) (qP D vwCl (tM q) (wM g q leM ceM fM kM vM wiM moM waM wkM wvM) sz [.ref (g 0), .int a1, .int a2]) (va_Qv (fun (u : (Nat → Int32) × (Int32) × (Nat → Int64) × (Nat → Int64)) => post u.1 u.2.1 u.2.2.1 u.2.2.2) (qB D vwCl (tM q) (fun u : (Nat → Int32) × (Int32) × (Nat → Int64) × (Nat → Int64) => (wM g q leM ceM u.1 kM vM wiM moM u.2.1 u.2.2.1 u.2.2.2)) (va_A (wM g q leM ceM fM kM vM wiM moM waM wkM wvM) sz)) (va_A (wM g q leM ceM fM kM vM wiM moM waM wkM wvM) sz)) 0 0 (va_A (wM g q leM ceM fM kM vM wiM moM waM wkM wvM) sz) := by
  refine q_enter (cc := cX1_lift) (maxL := 4) (ret := none) (fun A => va_Qv (fun (u : (Nat → Int32) × (Int32) × (Nat → Int64) × (Nat → Int64)) => post u.1 u.2.1 u.2.2.1 u.2.2.2) (qB D vwCl (tM q) (fun u : (Nat → Int32) × (Int32) × (Nat → Int64) × (Nat → Int64) => (wM g q leM ceM u.1 kM vM wiM moM u.2.1 u.2.2.1 u.2.2.2)) A) A) (by decide +kernel) rfl (Nat.le_of_ble_eq_true rfl) ?_
  intro p e s m below meth c A ls hx hb hr hml hown hts hlocks hname hP hK hD hA hl
  replace hown : s.vm.findClass RX1 = some m.cls := hown
  replace hl : lv_has ls 4 [(0, .ref (g 0)), (1, .int a1), (2, .int a2)] := hl
  have hS : va_S A s.heap s.heap [] := va_S.rf
  have hf_keys := hts _ (List.mem_cons_of_mem _ tfl_X1_13)
  have hf_values := hts _ (List.mem_cons_of_mem _ tfl_X1_17)
  have hf_waitKeys := hts _ (List.mem_cons_of_mem _ tfl_X1_24)
  have hf_waitValues := hts _ (List.mem_cons_of_mem _ tfl_X1_27)
  have hf_full := hts _ (List.mem_cons_of_mem _ tfl_X1_7)
  have hf_waiting := hts _ (List.mem_cons_of_mem _ tfl_X1_72)
  have L2 : ∀ (x1 : Int32) (x2 : Int32) (n : Nat) (x3 : Int32) (fM : Nat → Int32) (waM : Int32) (wkM : Nat → Int64) (wvM : Nat → Int64), wp_M_lift_L2 kM vM x1 x2 post n x3 fM waM wkM wvM → ∀ (H : Heap) (locs : List Loc) (ls : Array Slot), va_P D vwCl (wM g q leM ceM fM kM vM wiM moM waM wkM wvM) H → va_D A (wM g q leM ceM fM kM vM wiM moM waM wkM wvM) → va_S A s.heap H locs → lv_has ls 4 [(0, .ref (g 0)), (1, .int x1), (2, .int x2), (3, .int x3)] → W p l e { frames := 0, cells := 0, slots := 0, locals := 0 } s m ([.ref (g 0), .int a1, .int a2] : List Value).toArray below meth c H locs 0 0 (MQ below (va_Qv (fun (u : (Nat → Int32) × (Int32) × (Nat → Int64) × (Nat → Int64)) => post u.1 u.2.1 u.2.2.1 u.2.2.2) (qB D vwCl (tM q) (fun u : (Nat → Int32) × (Int32) × (Nat → Int64) × (Nat → Int64) => (wM g q leM ceM u.1 kM vM wiM moM u.2.1 u.2.2.1 u.2.2.2)) A) A) ([.ref (g 0), .int a1, .int a2] : List Value).toArray s 0 0 A) (F0 m 2 ls []) := by
    intro x1 x2 n
    induction n with
    | zero => intro x3 fM waM wkM wvM hw; exact False.elim (show False from hw)
    | succ n ih =>
      intro x3 fM waM wkM wvM hw H locs ls hP hD hS hl
      rw [wp_M_lift_L2] at hw
      refine lv_iload_n hx hb dX1_lift_2 rfl (lv_at hl 3 rfl) ?_
      refine lv_iload_n hx hb dX1_lift_3 rfl (lv_at hl 1 rfl) ?_
      refine lv_iload_n hx hb dX1_lift_4 rfl (lv_at hl 2 rfl) ?_
      refine lv_iadd hx hb dX1_lift_5 ?_
      refine lv_icmp_ge (tgt := 71) hx hb dX1_lift_6 (by decide) (fun c_1 => ?_) (fun c_1 => ?_)
      · replace hw := hw.1 c_1
        exact q_vret (fM, waM, wkM, wvM) hx hb hr hlocks hK dX1_lift_71 hS hP hD hw
      · replace hw := hw.2 c_1
        refine lv_aload_n hx hb dX1_lift_9 rfl (lv_at hl 0 rfl) ?_
        refine va_get (D := D) (ci := 1) (v := .ref (g 1)) (C := RX1) (T := TX1) (N := 10) hx hb hts (fun w h => List.mem_cons_of_mem _ (iX1 w h)) hown hK hP 0 rfl rfl 2 (by decide) hf_full (fun _ h9 => h9) rfl dX1_lift_10 ?_
        refine lv_iload_n hx hb dX1_lift_13 rfl (lv_at hl 3 rfl) ?_
        obtain ⟨hi_2, hw⟩ := hw
        refine va_zald hx hb hK hP 1 0 rfl rfl hi_2 dX1_lift_14 ?_
        refine lv_if_eq (tgt := 65) hx hb dX1_lift_15 (by decide) (fun c_3 => ?_) (fun c_3 => ?_)
        · replace hw := hw.1 c_3
          refine lv_iinc (v := (x3 + 1)) (lv' := [(3, .int (x3 + 1)), (0, .ref (g 0)), (1, .int x1), (2, .int x2)]) hx hb dX1_lift_65 hl (k := 3) rfl rfl (by decide) rfl (fun ls hl => ?_)
          refine lv_goto (tgt := 2) hx hb dX1_lift_68 (by decide) ?_
          exact ih (x3 + 1) fM waM wkM wvM hw _ _ ls hP hD hS (lv_sub hl [1, 2, 3, 0] rfl)
        · replace hw := hw.2 c_3
          refine lv_aload_n hx hb dX1_lift_18 rfl (lv_at hl 0 rfl) ?_
          refine va_get (D := D) (ci := 1) (v := .ref (g 4)) (C := RX1) (T := TX1) (N := 10) hx hb hts (fun w h => List.mem_cons_of_mem _ (iX1 w h)) hown hK hP 0 rfl rfl 8 (by decide) hf_waitKeys (fun _ h9 => h9) rfl dX1_lift_19 ?_
          refine lv_aload_n hx hb dX1_lift_22 rfl (lv_at hl 0 rfl) ?_
          refine va_get (D := D) (ci := 1) (v := .int waM) (C := RX1) (T := TX1) (N := 10) hx hb hts (fun w h => List.mem_cons_of_mem _ (iX1 w h)) hown hK hP 0 rfl rfl 7 (by decide) hf_waiting (fun _ h9 => h9) rfl dX1_lift_23 ?_
          refine lv_aload_n hx hb dX1_lift_26 rfl (lv_at hl 0 rfl) ?_
          refine va_get (D := D) (ci := 1) (v := .ref (g 2)) (C := RX1) (T := TX1) (N := 10) hx hb hts (fun w h => List.mem_cons_of_mem _ (iX1 w h)) hown hK hP 0 rfl rfl 3 (by decide) hf_keys (fun _ h9 => h9) rfl dX1_lift_27 ?_
          refine lv_iload_n hx hb dX1_lift_30 rfl (lv_at hl 3 rfl) ?_
          refine va_lald hx hb hK hP 2 1 rfl rfl hi_2 dX1_lift_31 ?_
          obtain ⟨hi_4, hw⟩ := hw
          refine va_last hx hb hK hP hD hS 4 3 rfl rfl hi_4 dX1_lift_32 (fun H locs hP hD hS => ?_)
          replace hP : va_P D vwCl (wM g q leM ceM fM kM vM wiM moM waM (vp_updL wkM waM.toNatClampNeg (kM x3.toNatClampNeg)) wvM) H := hP
          replace hD : va_D A (wM g q leM ceM fM kM vM wiM moM waM (vp_updL wkM waM.toNatClampNeg (kM x3.toNatClampNeg)) wvM) := hD
          refine lv_aload_n hx hb dX1_lift_33 rfl (lv_at hl 0 rfl) ?_
          refine va_get (D := D) (ci := 1) (v := .ref (g 5)) (C := RX1) (T := TX1) (N := 10) hx hb hts (fun w h => List.mem_cons_of_mem _ (iX1 w h)) hown hK hP 0 rfl rfl 9 (by decide) hf_waitValues (fun _ h9 => h9) rfl dX1_lift_34 ?_
          refine lv_aload_n hx hb dX1_lift_37 rfl (lv_at hl 0 rfl) ?_
          refine va_get (D := D) (ci := 1) (v := .int waM) (C := RX1) (T := TX1) (N := 10) hx hb hts (fun w h => List.mem_cons_of_mem _ (iX1 w h)) hown hK hP 0 rfl rfl 7 (by decide) hf_waiting (fun _ h9 => h9) rfl dX1_lift_38 ?_
          refine lv_aload_n hx hb dX1_lift_41 rfl (lv_at hl 0 rfl) ?_
          refine va_get (D := D) (ci := 1) (v := .ref (g 3)) (C := RX1) (T := TX1) (N := 10) hx hb hts (fun w h => List.mem_cons_of_mem _ (iX1 w h)) hown hK hP 0 rfl rfl 4 (by decide) hf_values (fun _ h9 => h9) rfl dX1_lift_42 ?_
          refine lv_iload_n hx hb dX1_lift_45 rfl (lv_at hl 3 rfl) ?_
          refine va_lald hx hb hK hP 3 2 rfl rfl hi_2 dX1_lift_46 ?_
          refine va_last hx hb hK hP hD hS 5 4 rfl rfl hi_4 dX1_lift_47 (fun H locs hP hD hS => ?_)
          replace hP : va_P D vwCl (wM g q leM ceM fM kM vM wiM moM waM (vp_updL wkM waM.toNatClampNeg (kM x3.toNatClampNeg)) (vp_updL wvM waM.toNatClampNeg (vM x3.toNatClampNeg))) H := hP
          replace hD : va_D A (wM g q leM ceM fM kM vM wiM moM waM (vp_updL wkM waM.toNatClampNeg (kM x3.toNatClampNeg)) (vp_updL wvM waM.toNatClampNeg (vM x3.toNatClampNeg))) := hD
          refine lv_aload_n hx hb dX1_lift_48 rfl (lv_at hl 0 rfl) ?_
          refine lv_dup hx hb dX1_lift_49 rfl ?_
          refine va_get (D := D) (ci := 1) (v := .int waM) (C := RX1) (T := TX1) (N := 10) hx hb hts (fun w h => List.mem_cons_of_mem _ (iX1 w h)) hown hK hP 0 rfl rfl 7 (by decide) hf_waiting (fun _ h9 => h9) rfl dX1_lift_50 ?_
          refine lv_iconst (v := 1) hx hb dX1_lift_53 (by decide) ?_
          refine lv_iadd hx hb dX1_lift_54 ?_
          refine va_put (D := D) (ci := 1) (v := .int (waM + 1)) (ty := .int) (C := RX1) (T := TX1) (N := 10) hx hb hts (fun w h => List.mem_cons_of_mem _ (iX1 w h)) tyX1 tyX1_ok nmX1 hown hK hP hD hS 0 rfl rfl 7 (by decide) hf_waiting (fun _ h9 => h9) rfl (by decide +kernel) rfl rfl (Nat.le_of_ble_eq_true rfl) dX1_lift_55 (fun H locs hP hD hS => ?_)
          replace hP : va_P D vwCl (wM g q leM ceM fM kM vM wiM moM (waM + 1) (vp_updL wkM waM.toNatClampNeg (kM x3.toNatClampNeg)) (vp_updL wvM waM.toNatClampNeg (vM x3.toNatClampNeg))) H := hP
          replace hD : va_D A (wM g q leM ceM fM kM vM wiM moM (waM + 1) (vp_updL wkM waM.toNatClampNeg (kM x3.toNatClampNeg)) (vp_updL wvM waM.toNatClampNeg (vM x3.toNatClampNeg))) := hD
          refine lv_aload_n hx hb dX1_lift_58 rfl (lv_at hl 0 rfl) ?_
          refine va_get (D := D) (ci := 1) (v := .ref (g 1)) (C := RX1) (T := TX1) (N := 10) hx hb hts (fun w h => List.mem_cons_of_mem _ (iX1 w h)) hown hK hP 0 rfl rfl 2 (by decide) hf_full (fun _ h9 => h9) rfl dX1_lift_59 ?_
          refine lv_iload_n hx hb dX1_lift_62 rfl (lv_at hl 3 rfl) ?_
          refine lv_iconst (v := 0) hx hb dX1_lift_63 (by decide) ?_
          refine va_zast hx hb hK hP hD hS 1 0 rfl rfl hi_2 dX1_lift_64 (fun H locs hP hD hS => ?_)
          replace hP : va_P D vwCl (wM g q leM ceM (upd fM x3.toNatClampNeg (vp_nar .boolean 0)) kM vM wiM moM (waM + 1) (vp_updL wkM waM.toNatClampNeg (kM x3.toNatClampNeg)) (vp_updL wvM waM.toNatClampNeg (vM x3.toNatClampNeg))) H := hP
          replace hD : va_D A (wM g q leM ceM (upd fM x3.toNatClampNeg (vp_nar .boolean 0)) kM vM wiM moM (waM + 1) (vp_updL wkM waM.toNatClampNeg (kM x3.toNatClampNeg)) (vp_updL wvM waM.toNatClampNeg (vM x3.toNatClampNeg))) := hD
          refine lv_iinc (v := (x3 + 1)) (lv' := [(3, .int (x3 + 1)), (0, .ref (g 0)), (1, .int x1), (2, .int x2)]) hx hb dX1_lift_65 hl (k := 3) rfl rfl (by decide) rfl (fun ls hl => ?_)
          refine lv_goto (tgt := 2) hx hb dX1_lift_68 (by decide) ?_
          exact ih (x3 + 1) (upd fM x3.toNatClampNeg (vp_nar .boolean 0)) (waM + 1) (vp_updL wkM waM.toNatClampNeg (kM x3.toNatClampNeg)) (vp_updL wvM waM.toNatClampNeg (vM x3.toNatClampNeg)) hw _ _ ls hP hD hS (lv_sub hl [1, 2, 3, 0] rfl)
  unfold wp_M_lift at hw
  refine lv_iload_n hx hb dX1_lift_0 rfl (lv_at hl 1 rfl) ?_
  refine lv_istore_n (lv' := [(3, .int a1), (0, .ref (g 0)), (1, .int a1), (2, .int a2)]) hx hb dX1_lift_1 rfl hl (by decide) rfl (fun ls hl => ?_)
  obtain ⟨n0, hw⟩ := hw
  exact L2 a1 a2 n0 a1 fM waM wkM wvM hw _ _ ls hP hD hS (lv_sub hl [1, 2, 3, 0] rfl)
set_option maxHeartbeats 4000000 in
set_option maxRecDepth 100000 in
theorem c_M_join (l : Launch) (D : va_G) (g : Nat → Nat) (q : Nat → ClassId) (leM : Int32) (ceM : Int32) (fM : Nat → Int32) (kM : Nat → Int64) (vM : Nat → Int64) (wiM : Int32) (moM : Int64) (waM : Int32) (wkM : Nat → Int64) (wvM : Nat → Int64) (a1 : Int64) (a3 : Int64) (post : (Int32) → (Nat → Int64) → (Nat → Int64) → Prop) (hw : wp_M_join waM wkM wvM a1 a3 post) (sz : Nat) : Met l yX1_join wsX1_join ({ frames := 0, cells := 0, slots := 0, locals := 0 }) (qP D vwCl (tM q) (wM g q leM ceM fM kM vM wiM moM waM wkM wvM) sz [.ref (g 0), .long a1, .long a3]) (va_Qv (fun (u : (Int32) × (Nat → Int64) × (Nat → Int64)) => post u.1 u.2.1 u.2.2) (qB D vwCl (tM q) (fun u : (Int32) × (Nat → Int64) × (Nat → Int64) => (wM g q leM ceM fM kM vM wiM moM u.1 u.2.1 u.2.2)) (va_A (wM g q leM ceM fM kM vM wiM moM waM wkM wvM) sz)) (va_A (wM g q leM ceM fM kM vM wiM moM waM wkM wvM) sz)) 0 0 (va_A (wM g q leM ceM fM kM vM wiM moM waM wkM wvM) sz) := by
  refine q_enter (cc := cX1_join) (maxL := 6) (ret := none) (fun A => va_Qv (fun (u : (Int32) × (Nat → Int64) × (Nat → Int64)) => post u.1 u.2.1 u.2.2) (qB D vwCl (tM q) (fun u : (Int32) × (Nat → Int64) × (Nat → Int64) => (wM g q leM ceM fM kM vM wiM moM u.1 u.2.1 u.2.2)) A) A) (by decide +kernel) rfl (Nat.le_of_ble_eq_true rfl) ?_
  intro p e s m below meth c A ls hx hb hr hml hown hts hlocks hname hP hK hD hA hl
  replace hown : s.vm.findClass RX1 = some m.cls := hown
  replace hl : lv_has ls 6 [(0, .ref (g 0)), (1, .long a1), (3, .long a3)] := hl
  have hS : va_S A s.heap s.heap [] := va_S.rf
  have hf_waitKeys := hts _ (List.mem_cons_of_mem _ tfl_X1_24)
  have hf_waitValues := hts _ (List.mem_cons_of_mem _ tfl_X1_27)
  have hf_waiting := hts _ (List.mem_cons_of_mem _ tfl_X1_72)
  have L6 : ∀ (x1 : Int64) (x3 : Int64) (n : Nat) (x5 : Int32) (waM : Int32) (wkM : Nat → Int64) (wvM : Nat → Int64), wp_M_join_L6 x1 x3 post n x5 waM wkM wvM → ∀ (H : Heap) (locs : List Loc) (ls : Array Slot), va_P D vwCl (wM g q leM ceM fM kM vM wiM moM waM wkM wvM) H → va_D A (wM g q leM ceM fM kM vM wiM moM waM wkM wvM) → va_S A s.heap H locs → lv_has ls 6 [(0, .ref (g 0)), (1, .long x1), (3, .long x3), (5, .int x5)] → W p l e { frames := 0, cells := 0, slots := 0, locals := 0 } s m ([.ref (g 0), .long a1, .long a3] : List Value).toArray below meth c H locs 0 0 (MQ below (va_Qv (fun (u : (Int32) × (Nat → Int64) × (Nat → Int64)) => post u.1 u.2.1 u.2.2) (qB D vwCl (tM q) (fun u : (Int32) × (Nat → Int64) × (Nat → Int64) => (wM g q leM ceM fM kM vM wiM moM u.1 u.2.1 u.2.2)) A) A) ([.ref (g 0), .long a1, .long a3] : List Value).toArray s 0 0 A) (F0 m 6 ls []) := by
    intro x1 x3 n
    induction n with
    | zero => intro x5 waM wkM wvM hw; exact False.elim (show False from hw)
    | succ n ih =>
      intro x5 waM wkM wvM hw H locs ls hP hD hS hl
      rw [wp_M_join_L6] at hw
      refine lv_iload hx hb dX1_join_6 (lv_at hl 3 rfl) ?_
      refine lv_if_le (tgt := 63) hx hb dX1_join_8 (by decide) (fun c_1 => ?_) (fun c_1 => ?_)
      · replace hw := hw.1 c_1
        refine lv_aload_n hx hb dX1_join_63 rfl (lv_at hl 0 rfl) ?_
        refine va_get (D := D) (ci := 1) (v := .ref (g 4)) (C := RX1) (T := TX1) (N := 10) hx hb hts (fun w h => List.mem_cons_of_mem _ (iX1 w h)) hown hK hP 0 rfl rfl 8 (by decide) hf_waitKeys (fun _ h9 => h9) rfl dX1_join_64 ?_
        refine lv_iload hx hb dX1_join_67 (lv_at hl 3 rfl) ?_
        refine lv_lload_n hx hb dX1_join_69 rfl (lv_at hl 1 rfl) ?_
        obtain ⟨hi_2, hw⟩ := hw
        refine va_last hx hb hK hP hD hS 4 3 rfl rfl hi_2 dX1_join_70 (fun H locs hP hD hS => ?_)
        replace hP : va_P D vwCl (wM g q leM ceM fM kM vM wiM moM waM (vp_updL wkM x5.toNatClampNeg x1) wvM) H := hP
        replace hD : va_D A (wM g q leM ceM fM kM vM wiM moM waM (vp_updL wkM x5.toNatClampNeg x1) wvM) := hD
        refine lv_aload_n hx hb dX1_join_71 rfl (lv_at hl 0 rfl) ?_
        refine va_get (D := D) (ci := 1) (v := .ref (g 5)) (C := RX1) (T := TX1) (N := 10) hx hb hts (fun w h => List.mem_cons_of_mem _ (iX1 w h)) hown hK hP 0 rfl rfl 9 (by decide) hf_waitValues (fun _ h9 => h9) rfl dX1_join_72 ?_
        refine lv_iload hx hb dX1_join_75 (lv_at hl 3 rfl) ?_
        refine lv_lload_n hx hb dX1_join_77 rfl (lv_at hl 2 rfl) ?_
        refine va_last hx hb hK hP hD hS 5 4 rfl rfl hi_2 dX1_join_78 (fun H locs hP hD hS => ?_)
        replace hP : va_P D vwCl (wM g q leM ceM fM kM vM wiM moM waM (vp_updL wkM x5.toNatClampNeg x1) (vp_updL wvM x5.toNatClampNeg x3)) H := hP
        replace hD : va_D A (wM g q leM ceM fM kM vM wiM moM waM (vp_updL wkM x5.toNatClampNeg x1) (vp_updL wvM x5.toNatClampNeg x3)) := hD
        refine lv_aload_n hx hb dX1_join_79 rfl (lv_at hl 0 rfl) ?_
        refine lv_dup hx hb dX1_join_80 rfl ?_
        refine va_get (D := D) (ci := 1) (v := .int waM) (C := RX1) (T := TX1) (N := 10) hx hb hts (fun w h => List.mem_cons_of_mem _ (iX1 w h)) hown hK hP 0 rfl rfl 7 (by decide) hf_waiting (fun _ h9 => h9) rfl dX1_join_81 ?_
        refine lv_iconst (v := 1) hx hb dX1_join_84 (by decide) ?_
        refine lv_iadd hx hb dX1_join_85 ?_
        refine va_put (D := D) (ci := 1) (v := .int (waM + 1)) (ty := .int) (C := RX1) (T := TX1) (N := 10) hx hb hts (fun w h => List.mem_cons_of_mem _ (iX1 w h)) tyX1 tyX1_ok nmX1 hown hK hP hD hS 0 rfl rfl 7 (by decide) hf_waiting (fun _ h9 => h9) rfl (by decide +kernel) rfl rfl (Nat.le_of_ble_eq_true rfl) dX1_join_86 (fun H locs hP hD hS => ?_)
        replace hP : va_P D vwCl (wM g q leM ceM fM kM vM wiM moM (waM + 1) (vp_updL wkM x5.toNatClampNeg x1) (vp_updL wvM x5.toNatClampNeg x3)) H := hP
        replace hD : va_D A (wM g q leM ceM fM kM vM wiM moM (waM + 1) (vp_updL wkM x5.toNatClampNeg x1) (vp_updL wvM x5.toNatClampNeg x3)) := hD
        exact q_vret ((waM + 1), (vp_updL wkM x5.toNatClampNeg x1), (vp_updL wvM x5.toNatClampNeg x3)) hx hb hr hlocks hK dX1_join_89 hS hP hD hw
      · replace hw := hw.2 c_1
        refine lv_aload_n hx hb dX1_join_11 rfl (lv_at hl 0 rfl) ?_
        refine va_get (D := D) (ci := 1) (v := .ref (g 4)) (C := RX1) (T := TX1) (N := 10) hx hb hts (fun w h => List.mem_cons_of_mem _ (iX1 w h)) hown hK hP 0 rfl rfl 8 (by decide) hf_waitKeys (fun _ h9 => h9) rfl dX1_join_12 ?_
        refine lv_iload hx hb dX1_join_15 (lv_at hl 3 rfl) ?_
        refine lv_iconst (v := 1) hx hb dX1_join_17 (by decide) ?_
        refine lv_isub hx hb dX1_join_18 ?_
        obtain ⟨hi_3, hw⟩ := hw
        refine va_lald hx hb hK hP 4 3 rfl rfl hi_3 dX1_join_19 ?_
        refine lv_lload_n hx hb dX1_join_20 rfl (lv_at hl 1 rfl) ?_
        refine q_lc_le (tgt := 63) hx hb dX1_join_21 dX1_join_22 (by decide) (fun c_4 => ?_) (fun c_4 => ?_)
        · replace hw := hw.1 c_4
          refine lv_aload_n hx hb dX1_join_63 rfl (lv_at hl 0 rfl) ?_
          refine va_get (D := D) (ci := 1) (v := .ref (g 4)) (C := RX1) (T := TX1) (N := 10) hx hb hts (fun w h => List.mem_cons_of_mem _ (iX1 w h)) hown hK hP 0 rfl rfl 8 (by decide) hf_waitKeys (fun _ h9 => h9) rfl dX1_join_64 ?_
          refine lv_iload hx hb dX1_join_67 (lv_at hl 3 rfl) ?_
          refine lv_lload_n hx hb dX1_join_69 rfl (lv_at hl 1 rfl) ?_
          obtain ⟨hi_5, hw⟩ := hw
          refine va_last hx hb hK hP hD hS 4 3 rfl rfl hi_5 dX1_join_70 (fun H locs hP hD hS => ?_)
          replace hP : va_P D vwCl (wM g q leM ceM fM kM vM wiM moM waM (vp_updL wkM x5.toNatClampNeg x1) wvM) H := hP
          replace hD : va_D A (wM g q leM ceM fM kM vM wiM moM waM (vp_updL wkM x5.toNatClampNeg x1) wvM) := hD
          refine lv_aload_n hx hb dX1_join_71 rfl (lv_at hl 0 rfl) ?_
          refine va_get (D := D) (ci := 1) (v := .ref (g 5)) (C := RX1) (T := TX1) (N := 10) hx hb hts (fun w h => List.mem_cons_of_mem _ (iX1 w h)) hown hK hP 0 rfl rfl 9 (by decide) hf_waitValues (fun _ h9 => h9) rfl dX1_join_72 ?_
          refine lv_iload hx hb dX1_join_75 (lv_at hl 3 rfl) ?_
          refine lv_lload_n hx hb dX1_join_77 rfl (lv_at hl 2 rfl) ?_
          refine va_last hx hb hK hP hD hS 5 4 rfl rfl hi_5 dX1_join_78 (fun H locs hP hD hS => ?_)
          replace hP : va_P D vwCl (wM g q leM ceM fM kM vM wiM moM waM (vp_updL wkM x5.toNatClampNeg x1) (vp_updL wvM x5.toNatClampNeg x3)) H := hP
          replace hD : va_D A (wM g q leM ceM fM kM vM wiM moM waM (vp_updL wkM x5.toNatClampNeg x1) (vp_updL wvM x5.toNatClampNeg x3)) := hD
          refine lv_aload_n hx hb dX1_join_79 rfl (lv_at hl 0 rfl) ?_
          refine lv_dup hx hb dX1_join_80 rfl ?_
          refine va_get (D := D) (ci := 1) (v := .int waM) (C := RX1) (T := TX1) (N := 10) hx hb hts (fun w h => List.mem_cons_of_mem _ (iX1 w h)) hown hK hP 0 rfl rfl 7 (by decide) hf_waiting (fun _ h9 => h9) rfl dX1_join_81 ?_
          refine lv_iconst (v := 1) hx hb dX1_join_84 (by decide) ?_
          refine lv_iadd hx hb dX1_join_85 ?_
          refine va_put (D := D) (ci := 1) (v := .int (waM + 1)) (ty := .int) (C := RX1) (T := TX1) (N := 10) hx hb hts (fun w h => List.mem_cons_of_mem _ (iX1 w h)) tyX1 tyX1_ok nmX1 hown hK hP hD hS 0 rfl rfl 7 (by decide) hf_waiting (fun _ h9 => h9) rfl (by decide +kernel) rfl rfl (Nat.le_of_ble_eq_true rfl) dX1_join_86 (fun H locs hP hD hS => ?_)
          replace hP : va_P D vwCl (wM g q leM ceM fM kM vM wiM moM (waM + 1) (vp_updL wkM x5.toNatClampNeg x1) (vp_updL wvM x5.toNatClampNeg x3)) H := hP
          replace hD : va_D A (wM g q leM ceM fM kM vM wiM moM (waM + 1) (vp_updL wkM x5.toNatClampNeg x1) (vp_updL wvM x5.toNatClampNeg x3)) := hD
          exact q_vret ((waM + 1), (vp_updL wkM x5.toNatClampNeg x1), (vp_updL wvM x5.toNatClampNeg x3)) hx hb hr hlocks hK dX1_join_89 hS hP hD hw
        · replace hw := hw.2 c_4
          refine lv_aload_n hx hb dX1_join_25 rfl (lv_at hl 0 rfl) ?_
          refine va_get (D := D) (ci := 1) (v := .ref (g 4)) (C := RX1) (T := TX1) (N := 10) hx hb hts (fun w h => List.mem_cons_of_mem _ (iX1 w h)) hown hK hP 0 rfl rfl 8 (by decide) hf_waitKeys (fun _ h9 => h9) rfl dX1_join_26 ?_
          refine lv_iload hx hb dX1_join_29 (lv_at hl 3 rfl) ?_
          refine lv_aload_n hx hb dX1_join_31 rfl (lv_at hl 0 rfl) ?_
          refine va_get (D := D) (ci := 1) (v := .ref (g 4)) (C := RX1) (T := TX1) (N := 10) hx hb hts (fun w h => List.mem_cons_of_mem _ (iX1 w h)) hown hK hP 0 rfl rfl 8 (by decide) hf_waitKeys (fun _ h9 => h9) rfl dX1_join_32 ?_
          refine lv_iload hx hb dX1_join_35 (lv_at hl 3 rfl) ?_
          refine lv_iconst (v := 1) hx hb dX1_join_37 (by decide) ?_
          refine lv_isub hx hb dX1_join_38 ?_
          refine va_lald hx hb hK hP 4 3 rfl rfl hi_3 dX1_join_39 ?_
          obtain ⟨hi_6, hw⟩ := hw
          refine va_last hx hb hK hP hD hS 4 3 rfl rfl hi_6 dX1_join_40 (fun H locs hP hD hS => ?_)
          replace hP : va_P D vwCl (wM g q leM ceM fM kM vM wiM moM waM (vp_updL wkM x5.toNatClampNeg (wkM (x5 - 1).toNatClampNeg)) wvM) H := hP
          replace hD : va_D A (wM g q leM ceM fM kM vM wiM moM waM (vp_updL wkM x5.toNatClampNeg (wkM (x5 - 1).toNatClampNeg)) wvM) := hD
          refine lv_aload_n hx hb dX1_join_41 rfl (lv_at hl 0 rfl) ?_
          refine va_get (D := D) (ci := 1) (v := .ref (g 5)) (C := RX1) (T := TX1) (N := 10) hx hb hts (fun w h => List.mem_cons_of_mem _ (iX1 w h)) hown hK hP 0 rfl rfl 9 (by decide) hf_waitValues (fun _ h9 => h9) rfl dX1_join_42 ?_
          refine lv_iload hx hb dX1_join_45 (lv_at hl 3 rfl) ?_
          refine lv_aload_n hx hb dX1_join_47 rfl (lv_at hl 0 rfl) ?_
          refine va_get (D := D) (ci := 1) (v := .ref (g 5)) (C := RX1) (T := TX1) (N := 10) hx hb hts (fun w h => List.mem_cons_of_mem _ (iX1 w h)) hown hK hP 0 rfl rfl 9 (by decide) hf_waitValues (fun _ h9 => h9) rfl dX1_join_48 ?_
          refine lv_iload hx hb dX1_join_51 (lv_at hl 3 rfl) ?_
          refine lv_iconst (v := 1) hx hb dX1_join_53 (by decide) ?_
          refine lv_isub hx hb dX1_join_54 ?_
          refine va_lald hx hb hK hP 5 4 rfl rfl hi_3 dX1_join_55 ?_
          refine va_last hx hb hK hP hD hS 5 4 rfl rfl hi_6 dX1_join_56 (fun H locs hP hD hS => ?_)
          replace hP : va_P D vwCl (wM g q leM ceM fM kM vM wiM moM waM (vp_updL wkM x5.toNatClampNeg (wkM (x5 - 1).toNatClampNeg)) (vp_updL wvM x5.toNatClampNeg (wvM (x5 - 1).toNatClampNeg))) H := hP
          replace hD : va_D A (wM g q leM ceM fM kM vM wiM moM waM (vp_updL wkM x5.toNatClampNeg (wkM (x5 - 1).toNatClampNeg)) (vp_updL wvM x5.toNatClampNeg (wvM (x5 - 1).toNatClampNeg))) := hD
          refine lv_iinc (v := (x5 + (-1))) (lv' := [(5, .int (x5 + (-1))), (0, .ref (g 0)), (1, .long x1), (3, .long x3)]) hx hb dX1_join_57 hl (k := 3) rfl rfl (by decide) rfl (fun ls hl => ?_)
          refine lv_goto (tgt := 6) hx hb dX1_join_60 (by decide) ?_
          exact ih (x5 + (-1)) waM (vp_updL wkM x5.toNatClampNeg (wkM (x5 - 1).toNatClampNeg)) (vp_updL wvM x5.toNatClampNeg (wvM (x5 - 1).toNatClampNeg)) hw _ _ ls hP hD hS (lv_sub hl [1, 2, 3, 0] rfl)
  unfold wp_M_join at hw
  refine lv_aload_n hx hb dX1_join_0 rfl (lv_at hl 0 rfl) ?_
  refine va_get (D := D) (ci := 1) (v := .int waM) (C := RX1) (T := TX1) (N := 10) hx hb hts (fun w h => List.mem_cons_of_mem _ (iX1 w h)) hown hK hP 0 rfl rfl 7 (by decide) hf_waiting (fun _ h9 => h9) rfl dX1_join_1 ?_
  refine lv_istore (lv' := [(5, .int waM), (0, .ref (g 0)), (1, .long a1), (3, .long a3)]) hx hb dX1_join_4 hl (by decide) rfl (fun ls hl => ?_)
  obtain ⟨n0, hw⟩ := hw
  exact L6 a1 a3 n0 waM waM wkM wvM hw _ _ ls hP hD hS (lv_sub hl [1, 2, 3, 0] rfl)
set_option maxHeartbeats 4000000 in
set_option maxRecDepth 100000 in
theorem c_M_spread (l : Launch) (D : va_G) (g : Nat → Nat) (q : Nat → ClassId) (leM : Int32) (ceM : Int32) (fM : Nat → Int32) (kM : Nat → Int64) (vM : Nat → Int64) (wiM : Int32) (moM : Int64) (waM : Int32) (wkM : Nat → Int64) (wvM : Nat → Int64) (a1 : Int32) (a2 : Int32) (post : (Nat → Int32) → (Nat → Int64) → (Nat → Int64) → (Int32) → (Int64) → (Int32) → Prop) (hw : wp_M_spread fM kM vM wiM moM waM wkM wvM a1 a2 post) (sz : Nat) : Met l yX1_spread wsX1_spread ({ frames := 0, cells := 0, slots := 0, locals := 0 }) (qP D vwCl (tM q) (wM g q leM ceM fM kM vM wiM moM waM wkM wvM) sz [.ref (g 0), .int a1, .int a2]) (va_Qv (fun (u : (Nat → Int32) × (Nat → Int64) × (Nat → Int64) × (Int32) × (Int64) × (Int32)) => post u.1 u.2.1 u.2.2.1 u.2.2.2.1 u.2.2.2.2.1 u.2.2.2.2.2) (qB D vwCl (tM q) (fun u : (Nat → Int32) × (Nat → Int64) × (Nat → Int64) × (Int32) × (Int64) × (Int32) => (wM g q leM ceM u.1 u.2.1 u.2.2.1 u.2.2.2.1 u.2.2.2.2.1 u.2.2.2.2.2 wkM wvM)) (va_A (wM g q leM ceM fM kM vM wiM moM waM wkM wvM) sz)) (va_A (wM g q leM ceM fM kM vM wiM moM waM wkM wvM) sz)) 0 0 (va_A (wM g q leM ceM fM kM vM wiM moM waM wkM wvM) sz) := by
  refine q_enter (cc := cX1_spread) (maxL := 6) (ret := none) (fun A => va_Qv (fun (u : (Nat → Int32) × (Nat → Int64) × (Nat → Int64) × (Int32) × (Int64) × (Int32)) => post u.1 u.2.1 u.2.2.1 u.2.2.2.1 u.2.2.2.2.1 u.2.2.2.2.2) (qB D vwCl (tM q) (fun u : (Nat → Int32) × (Nat → Int64) × (Nat → Int64) × (Int32) × (Int64) × (Int32) => (wM g q leM ceM u.1 u.2.1 u.2.2.1 u.2.2.2.1 u.2.2.2.2.1 u.2.2.2.2.2 wkM wvM)) A) A) (by decide +kernel) rfl (Nat.le_of_ble_eq_true rfl) ?_
  intro p e s m below meth c A ls hx hb hr hml hown hts hlocks hname hP hK hD hA hl
  replace hown : s.vm.findClass RX1 = some m.cls := hown
  replace hl : lv_has ls 6 [(0, .ref (g 0)), (1, .int a1), (2, .int a2)] := hl
  have hS : va_S A s.heap s.heap [] := va_S.rf
  have hf_keys := hts _ (List.mem_cons_of_mem _ tfl_X1_13)
  have hf_values := hts _ (List.mem_cons_of_mem _ tfl_X1_17)
  have hf_window := hts _ (List.mem_cons_of_mem _ tfl_X1_20)
  have hf_waitKeys := hts _ (List.mem_cons_of_mem _ tfl_X1_24)
  have hf_waitValues := hts _ (List.mem_cons_of_mem _ tfl_X1_27)
  have hf_full := hts _ (List.mem_cons_of_mem _ tfl_X1_7)
  have hf_waiting := hts _ (List.mem_cons_of_mem _ tfl_X1_72)
  have hf_moved := hts _ (List.mem_cons_of_mem _ tfl_X1_75)
  have L8 : ∀ (x1 : Int32) (x2 : Int32) (x3 : Int32) (n : Nat) (x4 : Int32) (fM : Nat → Int32) (kM : Nat → Int64) (vM : Nat → Int64) (wiM : Int32) (moM : Int64) (waM : Int32), wp_M_spread_L8 wkM wvM x1 x2 x3 post n x4 fM kM vM wiM moM waM → ∀ (H : Heap) (locs : List Loc) (ls : Array Slot), va_P D vwCl (wM g q leM ceM fM kM vM wiM moM waM wkM wvM) H → va_D A (wM g q leM ceM fM kM vM wiM moM waM wkM wvM) → va_S A s.heap H locs → lv_has ls 6 [(0, .ref (g 0)), (1, .int x1), (2, .int x2), (3, .int x3), (4, .int x4)] → W p l e { frames := 0, cells := 0, slots := 0, locals := 0 } s m ([.ref (g 0), .int a1, .int a2] : List Value).toArray below meth c H locs 0 0 (MQ below (va_Qv (fun (u : (Nat → Int32) × (Nat → Int64) × (Nat → Int64) × (Int32) × (Int64) × (Int32)) => post u.1 u.2.1 u.2.2.1 u.2.2.2.1 u.2.2.2.2.1 u.2.2.2.2.2) (qB D vwCl (tM q) (fun u : (Nat → Int32) × (Nat → Int64) × (Nat → Int64) × (Int32) × (Int64) × (Int32) => (wM g q leM ceM u.1 u.2.1 u.2.2.1 u.2.2.2.1 u.2.2.2.2.1 u.2.2.2.2.2 wkM wvM)) A) A) ([.ref (g 0), .int a1, .int a2] : List Value).toArray s 0 0 A) (F0 m 8 ls []) := by
    intro x1 x2 x3 n
    induction n with
    | zero => intro x4 fM kM vM wiM moM waM hw; exact False.elim (show False from hw)
    | succ n ih =>
      intro x4 fM kM vM wiM moM waM hw H locs ls hP hD hS hl
      rw [wp_M_spread_L8] at hw
      refine lv_iload hx hb dX1_spread_8 (lv_at hl 4 rfl) ?_
      refine lv_aload_n hx hb dX1_spread_10 rfl (lv_at hl 0 rfl) ?_
      refine va_get (D := D) (ci := 1) (v := .int waM) (C := RX1) (T := TX1) (N := 10) hx hb hts (fun w h => List.mem_cons_of_mem _ (iX1 w h)) hown hK hP 0 rfl rfl 7 (by decide) hf_waiting (fun _ h9 => h9) rfl dX1_spread_11 ?_
      refine lv_icmp_ge (tgt := 72) hx hb dX1_spread_14 (by decide) (fun c_1 => ?_) (fun c_1 => ?_)
      · replace hw := hw.1 c_1
        refine lv_aload_n hx hb dX1_spread_72 rfl (lv_at hl 0 rfl) ?_
        refine lv_dup hx hb dX1_spread_73 rfl ?_
        refine va_get (D := D) (ci := 1) (v := .long moM) (C := RX1) (T := TX1) (N := 10) hx hb hts (fun w h => List.mem_cons_of_mem _ (iX1 w h)) hown hK hP 0 rfl rfl 6 (by decide) hf_moved (fun _ h9 => h9) rfl dX1_spread_74 ?_
        refine lv_aload_n hx hb dX1_spread_77 rfl (lv_at hl 0 rfl) ?_
        refine va_get (D := D) (ci := 1) (v := .int waM) (C := RX1) (T := TX1) (N := 10) hx hb hts (fun w h => List.mem_cons_of_mem _ (iX1 w h)) hown hK hP 0 rfl rfl 7 (by decide) hf_waiting (fun _ h9 => h9) rfl dX1_spread_78 ?_
        refine lv_i2l hx hb dX1_spread_81 rfl ?_
        refine lv_ladd hx hb dX1_spread_82 ?_
        refine va_put (D := D) (ci := 1) (v := .long (moM + waM.toInt64)) (ty := .long) (C := RX1) (T := TX1) (N := 10) hx hb hts (fun w h => List.mem_cons_of_mem _ (iX1 w h)) tyX1 tyX1_ok nmX1 hown hK hP hD hS 0 rfl rfl 6 (by decide) hf_moved (fun _ h9 => h9) rfl (by decide +kernel) rfl rfl (Nat.le_of_ble_eq_true rfl) dX1_spread_83 (fun H locs hP hD hS => ?_)
        replace hP : va_P D vwCl (wM g q leM ceM fM kM vM wiM (moM + waM.toInt64) waM wkM wvM) H := hP
        replace hD : va_D A (wM g q leM ceM fM kM vM wiM (moM + waM.toInt64) waM wkM wvM) := hD
        refine lv_aload_n hx hb dX1_spread_86 rfl (lv_at hl 0 rfl) ?_
        refine lv_iload_n hx hb dX1_spread_87 rfl (lv_at hl 2 rfl) ?_
        refine va_put (D := D) (ci := 1) (v := .int x2) (ty := .int) (C := RX1) (T := TX1) (N := 10) hx hb hts (fun w h => List.mem_cons_of_mem _ (iX1 w h)) tyX1 tyX1_ok nmX1 hown hK hP hD hS 0 rfl rfl 5 (by decide) hf_window (fun _ h9 => h9) rfl (by decide +kernel) rfl rfl (Nat.le_of_ble_eq_true rfl) dX1_spread_88 (fun H locs hP hD hS => ?_)
        replace hP : va_P D vwCl (wM g q leM ceM fM kM vM x2 (moM + waM.toInt64) waM wkM wvM) H := hP
        replace hD : va_D A (wM g q leM ceM fM kM vM x2 (moM + waM.toInt64) waM wkM wvM) := hD
        refine lv_aload_n hx hb dX1_spread_91 rfl (lv_at hl 0 rfl) ?_
        refine lv_iconst (v := 0) hx hb dX1_spread_92 (by decide) ?_
        refine va_put (D := D) (ci := 1) (v := .int 0) (ty := .int) (C := RX1) (T := TX1) (N := 10) hx hb hts (fun w h => List.mem_cons_of_mem _ (iX1 w h)) tyX1 tyX1_ok nmX1 hown hK hP hD hS 0 rfl rfl 7 (by decide) hf_waiting (fun _ h9 => h9) rfl (by decide +kernel) rfl rfl (Nat.le_of_ble_eq_true rfl) dX1_spread_93 (fun H locs hP hD hS => ?_)
        replace hP : va_P D vwCl (wM g q leM ceM fM kM vM x2 (moM + waM.toInt64) 0 wkM wvM) H := hP
        replace hD : va_D A (wM g q leM ceM fM kM vM x2 (moM + waM.toInt64) 0 wkM wvM) := hD
        exact q_vret (fM, kM, vM, x2, (moM + waM.toInt64), 0) hx hb hr hlocks hK dX1_spread_96 hS hP hD hw
      · replace hw := hw.2 c_1
        refine lv_iload_n hx hb dX1_spread_17 rfl (lv_at hl 1 rfl) ?_
        refine lv_iload hx hb dX1_spread_18 (lv_at hl 4 rfl) ?_
        refine lv_iload_n hx hb dX1_spread_20 rfl (lv_at hl 3 rfl) ?_
        refine lv_imul hx hb dX1_spread_21 ?_
        refine lv_aload_n hx hb dX1_spread_22 rfl (lv_at hl 0 rfl) ?_
        refine va_get (D := D) (ci := 1) (v := .int waM) (C := RX1) (T := TX1) (N := 10) hx hb hts (fun w h => List.mem_cons_of_mem _ (iX1 w h)) hown hK hP 0 rfl rfl 7 (by decide) hf_waiting (fun _ h9 => h9) rfl dX1_spread_23 ?_
        obtain ⟨hz_2, hw⟩ := hw
        refine lv_idiv hx hb dX1_spread_26 hz_2 ?_
        refine lv_iadd hx hb dX1_spread_27 ?_
        refine lv_istore (lv' := [(5, .int (x1 + ((x4 * x3) / waM))), (0, .ref (g 0)), (1, .int x1), (2, .int x2), (3, .int x3), (4, .int x4)]) hx hb dX1_spread_28 hl (by decide) rfl (fun ls hl => ?_)
        refine lv_aload_n hx hb dX1_spread_30 rfl (lv_at hl 1 rfl) ?_
        refine va_get (D := D) (ci := 1) (v := .ref (g 1)) (C := RX1) (T := TX1) (N := 10) hx hb hts (fun w h => List.mem_cons_of_mem _ (iX1 w h)) hown hK hP 0 rfl rfl 2 (by decide) hf_full (fun _ h9 => h9) rfl dX1_spread_31 ?_
        refine lv_iload hx hb dX1_spread_34 (lv_at hl 0 rfl) ?_
        refine lv_iconst (v := 1) hx hb dX1_spread_36 (by decide) ?_
        obtain ⟨hi_3, hw⟩ := hw
        refine va_zast hx hb hK hP hD hS 1 0 rfl rfl hi_3 dX1_spread_37 (fun H locs hP hD hS => ?_)
        replace hP : va_P D vwCl (wM g q leM ceM (upd fM (x1 + ((x4 * x3) / waM)).toNatClampNeg (vp_nar .boolean 1)) kM vM wiM moM waM wkM wvM) H := hP
        replace hD : va_D A (wM g q leM ceM (upd fM (x1 + ((x4 * x3) / waM)).toNatClampNeg (vp_nar .boolean 1)) kM vM wiM moM waM wkM wvM) := hD
        refine lv_aload_n hx hb dX1_spread_38 rfl (lv_at hl 1 rfl) ?_
        refine va_get (D := D) (ci := 1) (v := .ref (g 2)) (C := RX1) (T := TX1) (N := 10) hx hb hts (fun w h => List.mem_cons_of_mem _ (iX1 w h)) hown hK hP 0 rfl rfl 3 (by decide) hf_keys (fun _ h9 => h9) rfl dX1_spread_39 ?_
        refine lv_iload hx hb dX1_spread_42 (lv_at hl 0 rfl) ?_
        refine lv_aload_n hx hb dX1_spread_44 rfl (lv_at hl 1 rfl) ?_
        refine va_get (D := D) (ci := 1) (v := .ref (g 4)) (C := RX1) (T := TX1) (N := 10) hx hb hts (fun w h => List.mem_cons_of_mem _ (iX1 w h)) hown hK hP 0 rfl rfl 8 (by decide) hf_waitKeys (fun _ h9 => h9) rfl dX1_spread_45 ?_
        refine lv_iload hx hb dX1_spread_48 (lv_at hl 5 rfl) ?_
        obtain ⟨hi_4, hw⟩ := hw
        refine va_lald hx hb hK hP 4 3 rfl rfl hi_4 dX1_spread_50 ?_
        refine va_last hx hb hK hP hD hS 2 1 rfl rfl hi_3 dX1_spread_51 (fun H locs hP hD hS => ?_)
        replace hP : va_P D vwCl (wM g q leM ceM (upd fM (x1 + ((x4 * x3) / waM)).toNatClampNeg (vp_nar .boolean 1)) (vp_updL kM (x1 + ((x4 * x3) / waM)).toNatClampNeg (wkM x4.toNatClampNeg)) vM wiM moM waM wkM wvM) H := hP
        replace hD : va_D A (wM g q leM ceM (upd fM (x1 + ((x4 * x3) / waM)).toNatClampNeg (vp_nar .boolean 1)) (vp_updL kM (x1 + ((x4 * x3) / waM)).toNatClampNeg (wkM x4.toNatClampNeg)) vM wiM moM waM wkM wvM) := hD
        refine lv_aload_n hx hb dX1_spread_52 rfl (lv_at hl 1 rfl) ?_
        refine va_get (D := D) (ci := 1) (v := .ref (g 3)) (C := RX1) (T := TX1) (N := 10) hx hb hts (fun w h => List.mem_cons_of_mem _ (iX1 w h)) hown hK hP 0 rfl rfl 4 (by decide) hf_values (fun _ h9 => h9) rfl dX1_spread_53 ?_
        refine lv_iload hx hb dX1_spread_56 (lv_at hl 0 rfl) ?_
        refine lv_aload_n hx hb dX1_spread_58 rfl (lv_at hl 1 rfl) ?_
        refine va_get (D := D) (ci := 1) (v := .ref (g 5)) (C := RX1) (T := TX1) (N := 10) hx hb hts (fun w h => List.mem_cons_of_mem _ (iX1 w h)) hown hK hP 0 rfl rfl 9 (by decide) hf_waitValues (fun _ h9 => h9) rfl dX1_spread_59 ?_
        refine lv_iload hx hb dX1_spread_62 (lv_at hl 5 rfl) ?_
        refine va_lald hx hb hK hP 5 4 rfl rfl hi_4 dX1_spread_64 ?_
        refine va_last hx hb hK hP hD hS 3 2 rfl rfl hi_3 dX1_spread_65 (fun H locs hP hD hS => ?_)
        replace hP : va_P D vwCl (wM g q leM ceM (upd fM (x1 + ((x4 * x3) / waM)).toNatClampNeg (vp_nar .boolean 1)) (vp_updL kM (x1 + ((x4 * x3) / waM)).toNatClampNeg (wkM x4.toNatClampNeg)) (vp_updL vM (x1 + ((x4 * x3) / waM)).toNatClampNeg (wvM x4.toNatClampNeg)) wiM moM waM wkM wvM) H := hP
        replace hD : va_D A (wM g q leM ceM (upd fM (x1 + ((x4 * x3) / waM)).toNatClampNeg (vp_nar .boolean 1)) (vp_updL kM (x1 + ((x4 * x3) / waM)).toNatClampNeg (wkM x4.toNatClampNeg)) (vp_updL vM (x1 + ((x4 * x3) / waM)).toNatClampNeg (wvM x4.toNatClampNeg)) wiM moM waM wkM wvM) := hD
        refine lv_iinc (v := (x4 + 1)) (lv' := [(4, .int (x4 + 1)), (5, .int (x1 + ((x4 * x3) / waM))), (0, .ref (g 0)), (1, .int x1), (2, .int x2), (3, .int x3)]) hx hb dX1_spread_66 hl (k := 5) rfl rfl (by decide) rfl (fun ls hl => ?_)
        refine lv_goto (tgt := 8) hx hb dX1_spread_69 (by decide) ?_
        exact ih (x4 + 1) (upd fM (x1 + ((x4 * x3) / waM)).toNatClampNeg (vp_nar .boolean 1)) (vp_updL kM (x1 + ((x4 * x3) / waM)).toNatClampNeg (wkM x4.toNatClampNeg)) (vp_updL vM (x1 + ((x4 * x3) / waM)).toNatClampNeg (wvM x4.toNatClampNeg)) wiM moM waM hw _ _ ls hP hD hS (lv_sub hl [2, 3, 4, 5, 0] rfl)
  unfold wp_M_spread at hw
  refine lv_bipush (v := 8) hx hb dX1_spread_0 (by decide) ?_
  refine lv_iload_n hx hb dX1_spread_2 rfl (lv_at hl 2 rfl) ?_
  refine lv_ishl hx hb dX1_spread_3 ?_
  refine lv_istore_n (lv' := [(3, .int ((8 : Int32) <<< (a2 &&& 31))), (0, .ref (g 0)), (1, .int a1), (2, .int a2)]) hx hb dX1_spread_4 rfl hl (by decide) rfl (fun ls hl => ?_)
  refine lv_iconst (v := 0) hx hb dX1_spread_5 (by decide) ?_
  refine lv_istore (lv' := [(4, .int 0), (3, .int ((8 : Int32) <<< (a2 &&& 31))), (0, .ref (g 0)), (1, .int a1), (2, .int a2)]) hx hb dX1_spread_6 hl (by decide) rfl (fun ls hl => ?_)
  obtain ⟨n0, hw⟩ := hw
  exact L8 a1 a2 ((8 : Int32) <<< (a2 &&& 31)) n0 0 fM kM vM wiM moM waM hw _ _ ls hP hD hS (lv_sub hl [2, 3, 4, 1, 0] rfl)
set_option maxHeartbeats 4000000 in
set_option maxRecDepth 100000 in
theorem c_M_cellOf (l : Launch) (D : va_G) (g : Nat → Nat) (q : Nat → ClassId) (leM : Int32) (ceM : Int32) (fM : Nat → Int32) (kM : Nat → Int64) (vM : Nat → Int64) (wiM : Int32) (moM : Int64) (waM : Int32) (wkM : Nat → Int64) (wvM : Nat → Int64) (a1 : Int64) (post : Int32 → Prop) (hw : wp_M_cellOf ceM fM kM a1 post) (sz : Nat) : Met l yX1_cellOf wsX1_cellOf ({ frames := 0, cells := 0, slots := 0, locals := 0 }) (qP D vwCl (tM q) (wM g q leM ceM fM kM vM wiM moM waM wkM wvM) sz [.ref (g 0), .long a1]) (va_Qi (fun r (_ : Unit) => post r) (qB D vwCl (tM q) (fun _ : Unit => (wM g q leM ceM fM kM vM wiM moM waM wkM wvM)) (va_A (wM g q leM ceM fM kM vM wiM moM waM wkM wvM) sz)) (va_A (wM g q leM ceM fM kM vM wiM moM waM wkM wvM) sz)) 0 0 (va_A (wM g q leM ceM fM kM vM wiM moM waM wkM wvM) sz) := by
  refine q_enter (cc := cX1_cellOf) (maxL := 5) (ret := (some .int)) (fun A => va_Qi (fun r (_ : Unit) => post r) (qB D vwCl (tM q) (fun _ : Unit => (wM g q leM ceM fM kM vM wiM moM waM wkM wvM)) A) A) (by decide +kernel) rfl (Nat.le_of_ble_eq_true rfl) ?_
  intro p e s m below meth c A ls hx hb hr hml hown hts hlocks hname hP hK hD hA hl
  replace hown : s.vm.findClass RX1 = some m.cls := hown
  replace hl : lv_has ls 5 [(0, .ref (g 0)), (1, .long a1)] := hl
  have hS : va_S A s.heap s.heap [] := va_S.rf
  have hf_keys := hts _ (List.mem_cons_of_mem _ tfl_X1_13)
  have hf_cells := hts _ (List.mem_cons_of_mem _ tfl_X1_33)
  have hf_full := hts _ (List.mem_cons_of_mem _ tfl_X1_7)
  have L5 : ∀ (x1 : Int64) (n : Nat) (x3 : Int32) (x4 : Int32), wp_M_cellOf_L5 ceM fM kM x1 post n x3 x4 → ∀ (H : Heap) (locs : List Loc) (ls : Array Slot), va_P D vwCl (wM g q leM ceM fM kM vM wiM moM waM wkM wvM) H → va_D A (wM g q leM ceM fM kM vM wiM moM waM wkM wvM) → va_S A s.heap H locs → lv_has ls 5 [(0, .ref (g 0)), (1, .long x1), (3, .int x3), (4, .int x4)] → W p l e { frames := 0, cells := 0, slots := 0, locals := 0 } s m ([.ref (g 0), .long a1] : List Value).toArray below meth c H locs 0 0 (MQ below (va_Qi (fun r (_ : Unit) => post r) (qB D vwCl (tM q) (fun _ : Unit => (wM g q leM ceM fM kM vM wiM moM waM wkM wvM)) A) A) ([.ref (g 0), .long a1] : List Value).toArray s 0 0 A) (F0 m 5 ls []) := by
    intro x1 n
    induction n with
    | zero => intro x3 x4 hw; exact False.elim (show False from hw)
    | succ n ih =>
      intro x3 x4 hw H locs ls hP hD hS hl
      rw [wp_M_cellOf_L5] at hw
      refine lv_iload hx hb dX1_cellOf_5 (lv_at hl 3 rfl) ?_
      refine lv_aload_n hx hb dX1_cellOf_7 rfl (lv_at hl 0 rfl) ?_
      refine va_get (D := D) (ci := 1) (v := .int ceM) (C := RX1) (T := TX1) (N := 10) hx hb hts (fun w h => List.mem_cons_of_mem _ (iX1 w h)) hown hK hP 0 rfl rfl 1 (by decide) hf_cells (fun _ h9 => h9) rfl dX1_cellOf_8 ?_
      refine lv_icmp_ge (tgt := 49) hx hb dX1_cellOf_11 (by decide) (fun c_1 => ?_) (fun c_1 => ?_)
      · replace hw := hw.1 c_1
        refine lv_iload_n hx hb dX1_cellOf_49 rfl (lv_at hl 2 rfl) ?_
        exact q_iret () hx hb hr hlocks hK dX1_cellOf_50 hS hP hD hw
      · replace hw := hw.2 c_1
        refine lv_aload_n hx hb dX1_cellOf_14 rfl (lv_at hl 0 rfl) ?_
        refine va_get (D := D) (ci := 1) (v := .ref (g 1)) (C := RX1) (T := TX1) (N := 10) hx hb hts (fun w h => List.mem_cons_of_mem _ (iX1 w h)) hown hK hP 0 rfl rfl 2 (by decide) hf_full (fun _ h9 => h9) rfl dX1_cellOf_15 ?_
        refine lv_iload hx hb dX1_cellOf_18 (lv_at hl 3 rfl) ?_
        obtain ⟨hi_2, hw⟩ := hw
        refine va_zald hx hb hK hP 1 0 rfl rfl hi_2 dX1_cellOf_20 ?_
        refine lv_if_eq (tgt := 41) hx hb dX1_cellOf_21 (by decide) (fun c_3 => ?_) (fun c_3 => ?_)
        · replace hw := hw.1 c_3
          refine lv_iload_n hx hb dX1_cellOf_41 rfl (lv_at hl 2 rfl) ?_
          refine lv_istore_n (lv' := [(3, .int x3), (0, .ref (g 0)), (1, .long x1), (4, .int x4)]) hx hb dX1_cellOf_42 rfl hl (by decide) rfl (fun ls hl => ?_)
          refine lv_iinc (v := (x4 + 1)) (lv' := [(4, .int (x4 + 1)), (3, .int x3), (0, .ref (g 0)), (1, .long x1)]) hx hb dX1_cellOf_43 hl (k := 3) rfl rfl (by decide) rfl (fun ls hl => ?_)
          refine lv_goto (tgt := 5) hx hb dX1_cellOf_46 (by decide) ?_
          exact ih x3 (x4 + 1) hw _ _ ls hP hD hS (lv_sub hl [2, 3, 1, 0] rfl)
        · replace hw := hw.2 c_3
          refine lv_aload_n hx hb dX1_cellOf_24 rfl (lv_at hl 0 rfl) ?_
          refine va_get (D := D) (ci := 1) (v := .ref (g 2)) (C := RX1) (T := TX1) (N := 10) hx hb hts (fun w h => List.mem_cons_of_mem _ (iX1 w h)) hown hK hP 0 rfl rfl 3 (by decide) hf_keys (fun _ h9 => h9) rfl dX1_cellOf_25 ?_
          refine lv_iload hx hb dX1_cellOf_28 (lv_at hl 3 rfl) ?_
          refine va_lald hx hb hK hP 2 1 rfl rfl hi_2 dX1_cellOf_30 ?_
          refine lv_lload_n hx hb dX1_cellOf_31 rfl (lv_at hl 1 rfl) ?_
          refine q_lc_ne (tgt := 41) hx hb dX1_cellOf_32 dX1_cellOf_33 (by decide) (fun c_4 => ?_) (fun c_4 => ?_)
          · replace hw := hw.2 c_4
            refine lv_iload_n hx hb dX1_cellOf_41 rfl (lv_at hl 2 rfl) ?_
            refine lv_istore_n (lv' := [(3, .int x3), (0, .ref (g 0)), (1, .long x1), (4, .int x4)]) hx hb dX1_cellOf_42 rfl hl (by decide) rfl (fun ls hl => ?_)
            refine lv_iinc (v := (x4 + 1)) (lv' := [(4, .int (x4 + 1)), (3, .int x3), (0, .ref (g 0)), (1, .long x1)]) hx hb dX1_cellOf_43 hl (k := 3) rfl rfl (by decide) rfl (fun ls hl => ?_)
            refine lv_goto (tgt := 5) hx hb dX1_cellOf_46 (by decide) ?_
            exact ih x3 (x4 + 1) hw _ _ ls hP hD hS (lv_sub hl [2, 3, 1, 0] rfl)
          · replace hw := hw.1 c_4
            refine lv_iload hx hb dX1_cellOf_36 (lv_at hl 3 rfl) ?_
            refine lv_goto (tgt := 42) hx hb dX1_cellOf_38 (by decide) ?_
            refine lv_istore_n (lv' := [(3, .int x4), (0, .ref (g 0)), (1, .long x1), (4, .int x4)]) hx hb dX1_cellOf_42 rfl hl (by decide) rfl (fun ls hl => ?_)
            refine lv_iinc (v := (x4 + 1)) (lv' := [(4, .int (x4 + 1)), (3, .int x4), (0, .ref (g 0)), (1, .long x1)]) hx hb dX1_cellOf_43 hl (k := 3) rfl rfl (by decide) rfl (fun ls hl => ?_)
            refine lv_goto (tgt := 5) hx hb dX1_cellOf_46 (by decide) ?_
            exact ih x4 (x4 + 1) hw _ _ ls hP hD hS (lv_sub hl [2, 3, 1, 0] rfl)
  unfold wp_M_cellOf at hw
  refine lv_iconst (v := (-1)) hx hb dX1_cellOf_0 (by decide) ?_
  refine lv_istore_n (lv' := [(3, .int (-1)), (0, .ref (g 0)), (1, .long a1)]) hx hb dX1_cellOf_1 rfl hl (by decide) rfl (fun ls hl => ?_)
  refine lv_iconst (v := 0) hx hb dX1_cellOf_2 (by decide) ?_
  refine lv_istore (lv' := [(4, .int 0), (3, .int (-1)), (0, .ref (g 0)), (1, .long a1)]) hx hb dX1_cellOf_3 hl (by decide) rfl (fun ls hl => ?_)
  obtain ⟨n0, hw⟩ := hw
  exact L5 a1 n0 (-1) 0 hw _ _ ls hP hD hS (lv_sub hl [2, 3, 1, 0] rfl)
set_option maxHeartbeats 4000000 in
set_option maxRecDepth 100000 in
theorem c_M_put (l : Launch) (D : va_G) (g : Nat → Nat) (q : Nat → ClassId) (leM : Int32) (ceM : Int32) (fM : Nat → Int32) (kM : Nat → Int64) (vM : Nat → Int64) (wiM : Int32) (moM : Int64) (waM : Int32) (wkM : Nat → Int64) (wvM : Nat → Int64) (a1 : Int64) (a3 : Int64) (post : Int32 → (Int32) → (Nat → Int32) → (Nat → Int64) → (Nat → Int64) → (Int32) → (Int64) → (Int32) → (Nat → Int64) → (Nat → Int64) → Prop) (hw : wp_M_put ceM fM kM vM wiM moM waM wkM wvM a1 a3 post) (sz : Nat) : Met l yX1_put wsX1_put ({ frames := 4, cells := 0, slots := 0, locals := 96 }) (qP D vwCl (tM q) (wM g q leM ceM fM kM vM wiM moM waM wkM wvM) sz [.ref (g 0), .long a1, .long a3]) (va_Qi (fun r (u : (Int32) × (Nat → Int32) × (Nat → Int64) × (Nat → Int64) × (Int32) × (Int64) × (Int32) × (Nat → Int64) × (Nat → Int64)) => post r u.1 u.2.1 u.2.2.1 u.2.2.2.1 u.2.2.2.2.1 u.2.2.2.2.2.1 u.2.2.2.2.2.2.1 u.2.2.2.2.2.2.2.1 u.2.2.2.2.2.2.2.2) (qB D vwCl (tM q) (fun u : (Int32) × (Nat → Int32) × (Nat → Int64) × (Nat → Int64) × (Int32) × (Int64) × (Int32) × (Nat → Int64) × (Nat → Int64) => (wM g q leM u.1 u.2.1 u.2.2.1 u.2.2.2.1 u.2.2.2.2.1 u.2.2.2.2.2.1 u.2.2.2.2.2.2.1 u.2.2.2.2.2.2.2.1 u.2.2.2.2.2.2.2.2)) (va_A (wM g q leM ceM fM kM vM wiM moM waM wkM wvM) sz)) (va_A (wM g q leM ceM fM kM vM wiM moM waM wkM wvM) sz)) 0 0 (va_A (wM g q leM ceM fM kM vM wiM moM waM wkM wvM) sz) := by
  refine q_enter (cc := cX1_put) (maxL := 10) (ret := (some .int)) (fun A => va_Qi (fun r (u : (Int32) × (Nat → Int32) × (Nat → Int64) × (Nat → Int64) × (Int32) × (Int64) × (Int32) × (Nat → Int64) × (Nat → Int64)) => post r u.1 u.2.1 u.2.2.1 u.2.2.2.1 u.2.2.2.2.1 u.2.2.2.2.2.1 u.2.2.2.2.2.2.1 u.2.2.2.2.2.2.2.1 u.2.2.2.2.2.2.2.2) (qB D vwCl (tM q) (fun u : (Int32) × (Nat → Int32) × (Nat → Int64) × (Nat → Int64) × (Int32) × (Int64) × (Int32) × (Nat → Int64) × (Nat → Int64) => (wM g q leM u.1 u.2.1 u.2.2.1 u.2.2.2.1 u.2.2.2.2.1 u.2.2.2.2.2.1 u.2.2.2.2.2.2.1 u.2.2.2.2.2.2.2.1 u.2.2.2.2.2.2.2.2)) A) A) (by decide +kernel) rfl (Nat.le_of_ble_eq_true rfl) ?_
  intro p e s m below meth c A ls hx hb hr hml hown hts hlocks hname hP hK hD hA hl
  replace hown : s.vm.findClass RX1 = some m.cls := hown
  replace hl : lv_has ls 10 [(0, .ref (g 0)), (1, .long a1), (3, .long a3)] := hl
  have hS : va_S A s.heap s.heap [] := va_S.rf
  have hf_values := hts _ (List.mem_cons_of_mem _ tfl_X1_17)
  have hf_cells := hts _ (List.mem_cons_of_mem _ tfl_X1_33)
  have L48 : ∀ (x1 : Int64) (x3 : Int64) (x6 : Int32) (x7 : Int32) (n : Nat) (x8 : Int32) (ceM : Int32) (fM : Nat → Int32) (kM : Nat → Int64) (vM : Nat → Int64) (wiM : Int32) (moM : Int64) (waM : Int32) (wkM : Nat → Int64) (wvM : Nat → Int64), wp_M_put_L48 x1 x3 x6 x7 post n x8 ceM fM kM vM wiM moM waM wkM wvM → ∀ (H : Heap) (locs : List Loc) (ls : Array Slot), va_P D vwCl (wM g q leM ceM fM kM vM wiM moM waM wkM wvM) H → va_D A (wM g q leM ceM fM kM vM wiM moM waM wkM wvM) → va_S A s.heap H locs → lv_has ls 10 [(0, .ref (g 0)), (1, .long x1), (3, .long x3), (6, .int x6), (7, .int x7), (8, .int x8)] → W p l e { frames := 4, cells := 0, slots := 0, locals := 96 } s m ([.ref (g 0), .long a1, .long a3] : List Value).toArray below meth c H locs 0 0 (MQ below (va_Qi (fun r (u : (Int32) × (Nat → Int32) × (Nat → Int64) × (Nat → Int64) × (Int32) × (Int64) × (Int32) × (Nat → Int64) × (Nat → Int64)) => post r u.1 u.2.1 u.2.2.1 u.2.2.2.1 u.2.2.2.2.1 u.2.2.2.2.2.1 u.2.2.2.2.2.2.1 u.2.2.2.2.2.2.2.1 u.2.2.2.2.2.2.2.2) (qB D vwCl (tM q) (fun u : (Int32) × (Nat → Int32) × (Nat → Int64) × (Nat → Int64) × (Int32) × (Int64) × (Int32) × (Nat → Int64) × (Nat → Int64) => (wM g q leM u.1 u.2.1 u.2.2.1 u.2.2.2.1 u.2.2.2.2.1 u.2.2.2.2.2.1 u.2.2.2.2.2.2.1 u.2.2.2.2.2.2.2.1 u.2.2.2.2.2.2.2.2)) A) A) ([.ref (g 0), .long a1, .long a3] : List Value).toArray s 0 0 A) (F0 m 48 ls []) := by
    intro x1 x3 x6 x7 n
    induction n with
    | zero => intro x8 ceM fM kM vM wiM moM waM wkM wvM hw; exact False.elim (show False from hw)
    | succ n ih =>
      intro x8 ceM fM kM vM wiM moM waM wkM wvM hw H locs ls hP hD hS hl
      rw [wp_M_put_L48] at hw
      refine lv_iload hx hb dX1_put_48 (lv_at hl 5 rfl) ?_
      refine lv_iload hx hb dX1_put_50 (lv_at hl 4 rfl) ?_
      refine lv_icmp_gt (tgt := 119) hx hb dX1_put_52 (by decide) (fun c_7 => ?_) (fun c_7 => ?_)
      · replace hw := hw.1 c_7
        refine lv_aload_n hx hb dX1_put_119 rfl (lv_at hl 0 rfl) ?_
        refine va_get (D := D) (ci := 1) (v := .int ceM) (C := RX1) (T := TX1) (N := 10) hx hb hts (fun w h => List.mem_cons_of_mem _ (iX1 w h)) hown hK hP 0 rfl rfl 1 (by decide) hf_cells (fun _ h9 => h9) rfl dX1_put_120 ?_
        refine lv_sipush (v := 512) hx hb dX1_put_123 (by decide) ?_
        refine lv_icmp_ne (tgt := 131) hx hb dX1_put_126 (by decide) (fun c_8 => ?_) (fun c_8 => ?_)
        · replace hw := hw.2 c_8
          refine lv_aload_n hx hb dX1_put_131 rfl (lv_at hl 0 rfl) ?_
          refine lv_iconst (v := 0) hx hb dX1_put_132 (by decide) ?_
          refine lv_aload_n hx hb dX1_put_133 rfl (lv_at hl 0 rfl) ?_
          refine va_get (D := D) (ci := 1) (v := .int ceM) (C := RX1) (T := TX1) (N := 10) hx hb hts (fun w h => List.mem_cons_of_mem _ (iX1 w h)) hown hK hP 0 rfl rfl 1 (by decide) hf_cells (fun _ h9 => h9) rfl dX1_put_134 ?_
          refine q_callVv (As := [.int 0, .int ceM]) (rest := []) (wr := []) [0, 1, 2, 3, 4, 5] [] ⟨hx, hb, hml, hown, hts⟩ (c_M_lift l D g q leM ceM fM kM vM wiM moM waM wkM wvM 0 ceM _ hw _) (cwV 2 hts gX1_put_X1_lift rfl rfl rfl (by decide +kernel) ⟨Nat.le_of_ble_eq_true rfl, Nat.le_of_ble_eq_true rfl⟩) (va_recv hK hP (ci := 1) (q0 := 0) rfl rfl) hK hP hD hS hA rfl rfl rfl (by decide) (by decide) (by decide) rfl hl.1 rfl (Nat.le_of_ble_eq_true rfl) dX1_put_137 ⟨Nat.zero_le _, Nat.zero_le _⟩ (fun u H locs hw hP hD hS => ?_)
          obtain ⟨fM_9, waM_10, wkM_11, wvM_12⟩ := u
          try dsimp only at hw
          replace hP : va_P D vwCl (wM g q leM ceM fM_9 kM vM wiM moM waM_10 wkM_11 wvM_12) H := hP
          replace hD : va_D A (wM g q leM ceM fM_9 kM vM wiM moM waM_10 wkM_11 wvM_12) := hD
          refine lv_aload_n hx hb dX1_put_140 rfl (lv_at hl 0 rfl) ?_
          refine lv_lload_n hx hb dX1_put_141 rfl (lv_at hl 1 rfl) ?_
          refine lv_lload_n hx hb dX1_put_142 rfl (lv_at hl 2 rfl) ?_
          refine q_callVv (As := [.long x1, .long x3]) (rest := []) (wr := []) [0, 1, 2, 3, 4, 5] [] ⟨hx, hb, hml, hown, hts⟩ (c_M_join l D g q leM ceM fM_9 kM vM wiM moM waM_10 wkM_11 wvM_12 x1 x3 _ hw _) (cwV 2 hts gX1_put_X1_join rfl rfl rfl (by decide +kernel) ⟨Nat.le_of_ble_eq_true rfl, Nat.le_of_ble_eq_true rfl⟩) (va_recv hK hP (ci := 1) (q0 := 0) rfl rfl) hK hP hD hS hA rfl rfl rfl (by decide) (by decide) (by decide) rfl hl.1 rfl (Nat.le_of_ble_eq_true rfl) dX1_put_143 ⟨Nat.zero_le _, Nat.zero_le _⟩ (fun u H locs hw hP hD hS => ?_)
          obtain ⟨waM_13, wkM_14, wvM_15⟩ := u
          try dsimp only at hw
          replace hP : va_P D vwCl (wM g q leM ceM fM_9 kM vM wiM moM waM_13 wkM_14 wvM_15) H := hP
          replace hD : va_D A (wM g q leM ceM fM_9 kM vM wiM moM waM_13 wkM_14 wvM_15) := hD
          refine lv_aload_n hx hb dX1_put_146 rfl (lv_at hl 0 rfl) ?_
          refine lv_iconst (v := 2) hx hb dX1_put_147 (by decide) ?_
          refine lv_aload_n hx hb dX1_put_148 rfl (lv_at hl 0 rfl) ?_
          refine va_get (D := D) (ci := 1) (v := .int ceM) (C := RX1) (T := TX1) (N := 10) hx hb hts (fun w h => List.mem_cons_of_mem _ (iX1 w h)) hown hK hP 0 rfl rfl 1 (by decide) hf_cells (fun _ h9 => h9) rfl dX1_put_149 ?_
          refine lv_imul hx hb dX1_put_152 ?_
          refine va_put (D := D) (ci := 1) (v := .int (2 * ceM)) (ty := .int) (C := RX1) (T := TX1) (N := 10) hx hb hts (fun w h => List.mem_cons_of_mem _ (iX1 w h)) tyX1 tyX1_ok nmX1 hown hK hP hD hS 0 rfl rfl 1 (by decide) hf_cells (fun _ h9 => h9) rfl (by decide +kernel) rfl rfl (Nat.le_of_ble_eq_true rfl) dX1_put_153 (fun H locs hP hD hS => ?_)
          replace hP : va_P D vwCl (wM g q leM (2 * ceM) fM_9 kM vM wiM moM waM_13 wkM_14 wvM_15) H := hP
          replace hD : va_D A (wM g q leM (2 * ceM) fM_9 kM vM wiM moM waM_13 wkM_14 wvM_15) := hD
          refine lv_aload_n hx hb dX1_put_156 rfl (lv_at hl 0 rfl) ?_
          refine lv_iconst (v := 0) hx hb dX1_put_157 (by decide) ?_
          refine lv_iload hx hb dX1_put_158 (lv_at hl 4 rfl) ?_
          refine lv_iconst (v := 1) hx hb dX1_put_160 (by decide) ?_
          refine lv_iadd hx hb dX1_put_161 ?_
          refine q_callVv (As := [.int 0, .int (x7 + 1)]) (rest := []) (wr := []) [0, 1, 2, 3, 4, 5] [] ⟨hx, hb, hml, hown, hts⟩ (c_M_spread l D g q leM (2 * ceM) fM_9 kM vM wiM moM waM_13 wkM_14 wvM_15 0 (x7 + 1) _ hw _) (cwV 2 hts gX1_put_X1_spread rfl rfl rfl (by decide +kernel) ⟨Nat.le_of_ble_eq_true rfl, Nat.le_of_ble_eq_true rfl⟩) (va_recv hK hP (ci := 1) (q0 := 0) rfl rfl) hK hP hD hS hA rfl rfl rfl (by decide) (by decide) (by decide) rfl hl.1 rfl (Nat.le_of_ble_eq_true rfl) dX1_put_162 ⟨Nat.zero_le _, Nat.zero_le _⟩ (fun u H locs hw hP hD hS => ?_)
          obtain ⟨fM_16, kM_17, vM_18, wiM_19, moM_20, waM_21⟩ := u
          try dsimp only at hw
          replace hP : va_P D vwCl (wM g q leM (2 * ceM) fM_16 kM_17 vM_18 wiM_19 moM_20 waM_21 wkM_14 wvM_15) H := hP
          replace hD : va_D A (wM g q leM (2 * ceM) fM_16 kM_17 vM_18 wiM_19 moM_20 waM_21 wkM_14 wvM_15) := hD
          refine lv_iconst (v := 1) hx hb dX1_put_165 (by decide) ?_
          exact q_iret ((2 * ceM), fM_16, kM_17, vM_18, wiM_19, moM_20, waM_21, wkM_14, wvM_15) hx hb hr hlocks hK dX1_put_166 hS hP hD hw
        · replace hw := hw.1 c_8
          refine lv_iconst (v := (-1)) hx hb dX1_put_129 (by decide) ?_
          exact q_iret (ceM, fM, kM, vM, wiM, moM, waM, wkM, wvM) hx hb hr hlocks hK dX1_put_130 hS hP hD hw
      · replace hw := hw.2 c_7
        refine lv_iload hx hb dX1_put_55 (lv_at hl 3 rfl) ?_
        refine lv_iload hx hb dX1_put_57 (lv_at hl 5 rfl) ?_
        refine q_callSi (As := [.int x6, .int x8]) (rest := []) (wr := (wM g q leM ceM fM kM vM wiM moM waM wkM wvM)) [] [0, 1, 2, 3, 4, 5] ⟨hx, hb, hml, hown, hts⟩ (c_M_firstOf l D x6 x8 _ hw _) (va_cwS 2 hts gX1_put_X1_firstOf rfl rfl rfl (by decide +kernel) ⟨Nat.le_of_ble_eq_true rfl, Nat.le_of_ble_eq_true rfl⟩) (hK.sub (tys' := []) [] rfl) hP hD hS hA rfl rfl rfl (by decide) (by decide) (by decide) rfl hl.1 rfl (Nat.le_of_ble_eq_true rfl) dX1_put_59 ⟨Nat.zero_le _, Nat.zero_le _⟩ (fun r_22 u H locs hw hP hD hS => ?_)
        try dsimp only at hw
        replace hP : va_P D vwCl (wM g q leM ceM fM kM vM wiM moM waM wkM wvM) H := hP
        replace hD : va_D A (wM g q leM ceM fM kM vM wiM moM waM wkM wvM) := hD
        refine lv_istore (lv' := [(9, .int r_22), (0, .ref (g 0)), (1, .long x1), (3, .long x3), (6, .int x6), (7, .int x7), (8, .int x8)]) hx hb dX1_put_62 hl (by decide) rfl (fun ls hl => ?_)
        refine lv_aload_n hx hb dX1_put_64 rfl (lv_at hl 1 rfl) ?_
        refine lv_iload hx hb dX1_put_65 (lv_at hl 0 rfl) ?_
        refine lv_bipush (v := 8) hx hb dX1_put_67 (by decide) ?_
        refine lv_iload hx hb dX1_put_69 (lv_at hl 6 rfl) ?_
        refine lv_ishl hx hb dX1_put_71 ?_
        refine q_callVi (As := [.int r_22, .int ((8 : Int32) <<< (x8 &&& 31))]) (rest := []) (wr := []) [0, 1, 2, 3, 4, 5] [] ⟨hx, hb, hml, hown, hts⟩ (c_M_held l D g q leM ceM fM kM vM wiM moM waM wkM wvM r_22 ((8 : Int32) <<< (x8 &&& 31)) _ hw _) (cwV 2 hts gX1_put_X1_held rfl rfl rfl (by decide +kernel) ⟨Nat.le_of_ble_eq_true rfl, Nat.le_of_ble_eq_true rfl⟩) (va_recv hK hP (ci := 1) (q0 := 0) rfl rfl) hK hP hD hS hA rfl rfl rfl (by decide) (by decide) (by decide) rfl hl.1 rfl (Nat.le_of_ble_eq_true rfl) dX1_put_72 ⟨Nat.zero_le _, Nat.zero_le _⟩ (fun r_23 u H locs hw hP hD hS => ?_)
        try dsimp only at hw
        replace hP : va_P D vwCl (wM g q leM ceM fM kM vM wiM moM waM wkM wvM) H := hP
        replace hD : va_D A (wM g q leM ceM fM kM vM wiM moM waM wkM wvM) := hD
        refine lv_iconst (v := 1) hx hb dX1_put_75 (by decide) ?_
        refine lv_iadd hx hb dX1_put_76 ?_
        refine lv_aload_n hx hb dX1_put_77 rfl (lv_at hl 1 rfl) ?_
        refine lv_iload hx hb dX1_put_78 (lv_at hl 6 rfl) ?_
        refine q_callVi (As := [.int x8]) (rest := [.int (r_23 + 1)]) (wr := []) [0, 1, 2, 3, 4, 5] [] ⟨hx, hb, hml, hown, hts⟩ (c_M_most l D g q leM ceM fM kM vM wiM moM waM wkM wvM x8 _ hw _) (cwV 1 hts gX1_put_X1_most rfl rfl rfl (by decide +kernel) ⟨Nat.le_of_ble_eq_true rfl, Nat.le_of_ble_eq_true rfl⟩) (va_recv hK hP (ci := 1) (q0 := 0) rfl rfl) hK hP hD hS hA rfl rfl rfl (by decide) (by decide) (by decide) rfl hl.1 rfl (Nat.le_of_ble_eq_true rfl) dX1_put_80 ⟨Nat.zero_le _, Nat.zero_le _⟩ (fun r_24 u H locs hw hP hD hS => ?_)
        try dsimp only at hw
        replace hP : va_P D vwCl (wM g q leM ceM fM kM vM wiM moM waM wkM wvM) H := hP
        replace hD : va_D A (wM g q leM ceM fM kM vM wiM moM waM wkM wvM) := hD
        refine lv_icmp_gt (tgt := 113) hx hb dX1_put_83 (by decide) (fun c_25 => ?_) (fun c_25 => ?_)
        · replace hw := hw.1 c_25
          refine lv_iinc (v := (x8 + 1)) (lv' := [(8, .int (x8 + 1)), (9, .int r_22), (0, .ref (g 0)), (1, .long x1), (3, .long x3), (6, .int x6), (7, .int x7)]) hx hb dX1_put_113 hl (k := 6) rfl rfl (by decide) rfl (fun ls hl => ?_)
          refine lv_goto (tgt := 48) hx hb dX1_put_116 (by decide) ?_
          exact ih (x8 + 1) ceM fM kM vM wiM moM waM wkM wvM hw _ _ ls hP hD hS (lv_sub hl [2, 3, 4, 5, 6, 0] rfl)
        · replace hw := hw.2 c_25
          refine lv_aload_n hx hb dX1_put_86 rfl (lv_at hl 1 rfl) ?_
          refine lv_iload hx hb dX1_put_87 (lv_at hl 0 rfl) ?_
          refine lv_bipush (v := 8) hx hb dX1_put_89 (by decide) ?_
          refine lv_iload hx hb dX1_put_91 (lv_at hl 6 rfl) ?_
          refine lv_ishl hx hb dX1_put_93 ?_
          refine q_callVv (As := [.int r_22, .int ((8 : Int32) <<< (x8 &&& 31))]) (rest := []) (wr := []) [0, 1, 2, 3, 4, 5] [] ⟨hx, hb, hml, hown, hts⟩ (c_M_lift l D g q leM ceM fM kM vM wiM moM waM wkM wvM r_22 ((8 : Int32) <<< (x8 &&& 31)) _ hw _) (cwV 2 hts gX1_put_X1_lift rfl rfl rfl (by decide +kernel) ⟨Nat.le_of_ble_eq_true rfl, Nat.le_of_ble_eq_true rfl⟩) (va_recv hK hP (ci := 1) (q0 := 0) rfl rfl) hK hP hD hS hA rfl rfl rfl (by decide) (by decide) (by decide) rfl hl.1 rfl (Nat.le_of_ble_eq_true rfl) dX1_put_94 ⟨Nat.zero_le _, Nat.zero_le _⟩ (fun u H locs hw hP hD hS => ?_)
          obtain ⟨fM_26, waM_27, wkM_28, wvM_29⟩ := u
          try dsimp only at hw
          replace hP : va_P D vwCl (wM g q leM ceM fM_26 kM vM wiM moM waM_27 wkM_28 wvM_29) H := hP
          replace hD : va_D A (wM g q leM ceM fM_26 kM vM wiM moM waM_27 wkM_28 wvM_29) := hD
          refine lv_aload_n hx hb dX1_put_97 rfl (lv_at hl 1 rfl) ?_
          refine lv_lload_n hx hb dX1_put_98 rfl (lv_at hl 2 rfl) ?_
          refine lv_lload_n hx hb dX1_put_99 rfl (lv_at hl 3 rfl) ?_
          refine q_callVv (As := [.long x1, .long x3]) (rest := []) (wr := []) [0, 1, 2, 3, 4, 5] [] ⟨hx, hb, hml, hown, hts⟩ (c_M_join l D g q leM ceM fM_26 kM vM wiM moM waM_27 wkM_28 wvM_29 x1 x3 _ hw _) (cwV 2 hts gX1_put_X1_join rfl rfl rfl (by decide +kernel) ⟨Nat.le_of_ble_eq_true rfl, Nat.le_of_ble_eq_true rfl⟩) (va_recv hK hP (ci := 1) (q0 := 0) rfl rfl) hK hP hD hS hA rfl rfl rfl (by decide) (by decide) (by decide) rfl hl.1 rfl (Nat.le_of_ble_eq_true rfl) dX1_put_100 ⟨Nat.zero_le _, Nat.zero_le _⟩ (fun u H locs hw hP hD hS => ?_)
          obtain ⟨waM_30, wkM_31, wvM_32⟩ := u
          try dsimp only at hw
          replace hP : va_P D vwCl (wM g q leM ceM fM_26 kM vM wiM moM waM_30 wkM_31 wvM_32) H := hP
          replace hD : va_D A (wM g q leM ceM fM_26 kM vM wiM moM waM_30 wkM_31 wvM_32) := hD
          refine lv_aload_n hx hb dX1_put_103 rfl (lv_at hl 1 rfl) ?_
          refine lv_iload hx hb dX1_put_104 (lv_at hl 0 rfl) ?_
          refine lv_iload hx hb dX1_put_106 (lv_at hl 6 rfl) ?_
          refine q_callVv (As := [.int r_22, .int x8]) (rest := []) (wr := []) [0, 1, 2, 3, 4, 5] [] ⟨hx, hb, hml, hown, hts⟩ (c_M_spread l D g q leM ceM fM_26 kM vM wiM moM waM_30 wkM_31 wvM_32 r_22 x8 _ hw _) (cwV 2 hts gX1_put_X1_spread rfl rfl rfl (by decide +kernel) ⟨Nat.le_of_ble_eq_true rfl, Nat.le_of_ble_eq_true rfl⟩) (va_recv hK hP (ci := 1) (q0 := 0) rfl rfl) hK hP hD hS hA rfl rfl rfl (by decide) (by decide) (by decide) rfl hl.1 rfl (Nat.le_of_ble_eq_true rfl) dX1_put_108 ⟨Nat.zero_le _, Nat.zero_le _⟩ (fun u H locs hw hP hD hS => ?_)
          obtain ⟨fM_33, kM_34, vM_35, wiM_36, moM_37, waM_38⟩ := u
          try dsimp only at hw
          replace hP : va_P D vwCl (wM g q leM ceM fM_33 kM_34 vM_35 wiM_36 moM_37 waM_38 wkM_31 wvM_32) H := hP
          replace hD : va_D A (wM g q leM ceM fM_33 kM_34 vM_35 wiM_36 moM_37 waM_38 wkM_31 wvM_32) := hD
          refine lv_iconst (v := 1) hx hb dX1_put_111 (by decide) ?_
          exact q_iret (ceM, fM_33, kM_34, vM_35, wiM_36, moM_37, waM_38, wkM_31, wvM_32) hx hb hr hlocks hK dX1_put_112 hS hP hD hw
  unfold wp_M_put at hw
  refine lv_lload_n hx hb dX1_put_0 rfl (lv_at hl 1 rfl) ?_
  refine lv_ldc2 (v := NOK) hx hb hown (hts _ (List.mem_cons_of_mem _ tcn_X1_40)) dX1_put_1 ?_
  refine q_lc_ne (tgt := 10) hx hb dX1_put_4 dX1_put_5 (by decide) (fun c_1 => ?_) (fun c_1 => ?_)
  · replace hw := hw.2 c_1
    refine lv_aload_n hx hb dX1_put_10 rfl (lv_at hl 0 rfl) ?_
    refine lv_lload_n hx hb dX1_put_11 rfl (lv_at hl 1 rfl) ?_
    refine q_callVi (As := [.long a1]) (rest := []) (wr := []) [0, 1, 2, 3, 4, 5] [] ⟨hx, hb, hml, hown, hts⟩ (c_M_cellOf l D g q leM ceM fM kM vM wiM moM waM wkM wvM a1 _ hw _) (cwV 1 hts gX1_put_X1_cellOf rfl rfl rfl (by decide +kernel) ⟨Nat.le_of_ble_eq_true rfl, Nat.le_of_ble_eq_true rfl⟩) (va_recv hK hP (ci := 1) (q0 := 0) rfl rfl) hK hP hD hS hA rfl rfl rfl (by decide) (by decide) (by decide) rfl hl.1 rfl (Nat.le_of_ble_eq_true rfl) dX1_put_12 ⟨Nat.zero_le _, Nat.zero_le _⟩ (fun r_2 u H locs hw hP hD hS => ?_)
    try dsimp only at hw
    replace hP : va_P D vwCl (wM g q leM ceM fM kM vM wiM moM waM wkM wvM) H := hP
    replace hD : va_D A (wM g q leM ceM fM kM vM wiM moM waM wkM wvM) := hD
    refine lv_istore (lv' := [(5, .int r_2), (0, .ref (g 0)), (1, .long a1), (3, .long a3)]) hx hb dX1_put_15 hl (by decide) rfl (fun ls hl => ?_)
    refine lv_iload hx hb dX1_put_17 (lv_at hl 0 rfl) ?_
    refine lv_if_lt (tgt := 32) hx hb dX1_put_19 (by decide) (fun c_3 => ?_) (fun c_3 => ?_)
    · replace hw := hw.1 c_3
      refine lv_aload_n hx hb dX1_put_32 rfl (lv_at hl 1 rfl) ?_
      refine lv_lload_n hx hb dX1_put_33 rfl (lv_at hl 2 rfl) ?_
      refine q_callVi (As := [.long a1]) (rest := []) (wr := []) [0, 1, 2, 3, 4, 5] [] ⟨hx, hb, hml, hown, hts⟩ (c_M_seek l D g q leM ceM fM kM vM wiM moM waM wkM wvM a1 _ hw _) (cwV 1 hts gX1_put_X1_seek rfl rfl rfl (by decide +kernel) ⟨Nat.le_of_ble_eq_true rfl, Nat.le_of_ble_eq_true rfl⟩) (va_recv hK hP (ci := 1) (q0 := 0) rfl rfl) hK hP hD hS hA rfl rfl rfl (by decide) (by decide) (by decide) rfl hl.1 rfl (Nat.le_of_ble_eq_true rfl) dX1_put_34 ⟨Nat.zero_le _, Nat.zero_le _⟩ (fun r_4 u H locs hw hP hD hS => ?_)
      try dsimp only at hw
      replace hP : va_P D vwCl (wM g q leM ceM fM kM vM wiM moM waM wkM wvM) H := hP
      replace hD : va_D A (wM g q leM ceM fM kM vM wiM moM waM wkM wvM) := hD
      refine lv_istore (lv' := [(6, .int r_4), (5, .int r_2), (0, .ref (g 0)), (1, .long a1), (3, .long a3)]) hx hb dX1_put_37 hl (by decide) rfl (fun ls hl => ?_)
      refine lv_aload_n hx hb dX1_put_39 rfl (lv_at hl 2 rfl) ?_
      refine q_callVi (As := []) (rest := []) (wr := []) [0, 1, 2, 3, 4, 5] [] ⟨hx, hb, hml, hown, hts⟩ (c_M_levels l D g q leM ceM fM kM vM wiM moM waM wkM wvM  _ hw _) (cwV 0 hts gX1_put_X1_levels rfl rfl rfl (by decide +kernel) ⟨Nat.le_of_ble_eq_true rfl, Nat.le_of_ble_eq_true rfl⟩) (va_recv hK hP (ci := 1) (q0 := 0) rfl rfl) hK hP hD hS hA rfl rfl rfl (by decide) (by decide) (by decide) rfl hl.1 rfl (Nat.le_of_ble_eq_true rfl) dX1_put_40 ⟨Nat.zero_le _, Nat.zero_le _⟩ (fun r_5 u H locs hw hP hD hS => ?_)
      try dsimp only at hw
      replace hP : va_P D vwCl (wM g q leM ceM fM kM vM wiM moM waM wkM wvM) H := hP
      replace hD : va_D A (wM g q leM ceM fM kM vM wiM moM waM wkM wvM) := hD
      refine lv_istore (lv' := [(7, .int r_5), (6, .int r_4), (5, .int r_2), (0, .ref (g 0)), (1, .long a1), (3, .long a3)]) hx hb dX1_put_43 hl (by decide) rfl (fun ls hl => ?_)
      refine lv_iconst (v := 0) hx hb dX1_put_45 (by decide) ?_
      refine lv_istore (lv' := [(8, .int 0), (7, .int r_5), (6, .int r_4), (5, .int r_2), (0, .ref (g 0)), (1, .long a1), (3, .long a3)]) hx hb dX1_put_46 hl (by decide) rfl (fun ls hl => ?_)
      obtain ⟨n0, hw⟩ := hw
      exact L48 a1 a3 r_4 r_5 n0 0 ceM fM kM vM wiM moM waM wkM wvM hw _ _ ls hP hD hS (lv_sub hl [4, 5, 6, 2, 1, 0] rfl)
    · replace hw := hw.2 c_3
      refine lv_aload_n hx hb dX1_put_22 rfl (lv_at hl 1 rfl) ?_
      refine va_get (D := D) (ci := 1) (v := .ref (g 3)) (C := RX1) (T := TX1) (N := 10) hx hb hts (fun w h => List.mem_cons_of_mem _ (iX1 w h)) hown hK hP 0 rfl rfl 4 (by decide) hf_values (fun _ h9 => h9) rfl dX1_put_23 ?_
      refine lv_iload hx hb dX1_put_26 (lv_at hl 0 rfl) ?_
      refine lv_lload_n hx hb dX1_put_28 rfl (lv_at hl 3 rfl) ?_
      obtain ⟨hi_6, hw⟩ := hw
      refine va_last hx hb hK hP hD hS 3 2 rfl rfl hi_6 dX1_put_29 (fun H locs hP hD hS => ?_)
      replace hP : va_P D vwCl (wM g q leM ceM fM kM (vp_updL vM r_2.toNatClampNeg a3) wiM moM waM wkM wvM) H := hP
      replace hD : va_D A (wM g q leM ceM fM kM (vp_updL vM r_2.toNatClampNeg a3) wiM moM waM wkM wvM) := hD
      refine lv_iconst (v := 0) hx hb dX1_put_30 (by decide) ?_
      exact q_iret (ceM, fM, kM, (vp_updL vM r_2.toNatClampNeg a3), wiM, moM, waM, wkM, wvM) hx hb hr hlocks hK dX1_put_31 hS hP hD hw
  · replace hw := hw.1 c_1
    refine lv_iconst (v := (-1)) hx hb dX1_put_8 (by decide) ?_
    exact q_iret (ceM, fM, kM, vM, wiM, moM, waM, wkM, wvM) hx hb hr hlocks hK dX1_put_9 hS hP hD hw
set_option maxHeartbeats 4000000 in
set_option maxRecDepth 100000 in
theorem c_M_fill (l : Launch) (D : va_G) (g : Nat → Nat) (q : Nat → ClassId) (leM : Int32) (ceM : Int32) (fM : Nat → Int32) (kM : Nat → Int64) (vM : Nat → Int64) (wiM : Int32) (moM : Int64) (waM : Int32) (wkM : Nat → Int64) (wvM : Nat → Int64) (a1 : Int64) (a3 : Int64) (a5 : Int32) (post : Int32 → (Int32) → (Nat → Int32) → (Nat → Int64) → (Nat → Int64) → (Int32) → (Int64) → (Int32) → (Nat → Int64) → (Nat → Int64) → Prop) (hw : wp_M_fill ceM fM kM vM wiM moM waM wkM wvM a1 a3 a5 post) (sz : Nat) : Met l yX1_fill wsX1_fill ({ frames := 5, cells := 0, slots := 0, locals := 125 }) (qP D vwCl (tM q) (wM g q leM ceM fM kM vM wiM moM waM wkM wvM) sz [.ref (g 0), .long a1, .long a3, .int a5]) (va_Qi (fun r (u : (Int32) × (Nat → Int32) × (Nat → Int64) × (Nat → Int64) × (Int32) × (Int64) × (Int32) × (Nat → Int64) × (Nat → Int64)) => post r u.1 u.2.1 u.2.2.1 u.2.2.2.1 u.2.2.2.2.1 u.2.2.2.2.2.1 u.2.2.2.2.2.2.1 u.2.2.2.2.2.2.2.1 u.2.2.2.2.2.2.2.2) (qB D vwCl (tM q) (fun u : (Int32) × (Nat → Int32) × (Nat → Int64) × (Nat → Int64) × (Int32) × (Int64) × (Int32) × (Nat → Int64) × (Nat → Int64) => (wM g q leM u.1 u.2.1 u.2.2.1 u.2.2.2.1 u.2.2.2.2.1 u.2.2.2.2.2.1 u.2.2.2.2.2.2.1 u.2.2.2.2.2.2.2.1 u.2.2.2.2.2.2.2.2)) (va_A (wM g q leM ceM fM kM vM wiM moM waM wkM wvM) sz)) (va_A (wM g q leM ceM fM kM vM wiM moM waM wkM wvM) sz)) 0 0 (va_A (wM g q leM ceM fM kM vM wiM moM waM wkM wvM) sz) := by
  refine q_enter (cc := cX1_fill) (maxL := 11) (ret := (some .int)) (fun A => va_Qi (fun r (u : (Int32) × (Nat → Int32) × (Nat → Int64) × (Nat → Int64) × (Int32) × (Int64) × (Int32) × (Nat → Int64) × (Nat → Int64)) => post r u.1 u.2.1 u.2.2.1 u.2.2.2.1 u.2.2.2.2.1 u.2.2.2.2.2.1 u.2.2.2.2.2.2.1 u.2.2.2.2.2.2.2.1 u.2.2.2.2.2.2.2.2) (qB D vwCl (tM q) (fun u : (Int32) × (Nat → Int32) × (Nat → Int64) × (Nat → Int64) × (Int32) × (Int64) × (Int32) × (Nat → Int64) × (Nat → Int64) => (wM g q leM u.1 u.2.1 u.2.2.1 u.2.2.2.1 u.2.2.2.2.1 u.2.2.2.2.2.1 u.2.2.2.2.2.2.1 u.2.2.2.2.2.2.2.1 u.2.2.2.2.2.2.2.2)) A) A) (by decide +kernel) rfl (Nat.le_of_ble_eq_true rfl) ?_
  intro p e s m below meth c A ls hx hb hr hml hown hts hlocks hname hP hK hD hA hl
  replace hown : s.vm.findClass RX1 = some m.cls := hown
  replace hl : lv_has ls 11 [(0, .ref (g 0)), (1, .long a1), (3, .long a3), (5, .int a5)] := hl
  have hS : va_S A s.heap s.heap [] := va_S.rf
  have L23 : ∀ (x3 : Int64) (x5 : Int32) (n : Nat) (x6 : Int32) (x7 : Int64) (x9 : Int32) (ceM : Int32) (fM : Nat → Int32) (kM : Nat → Int64) (vM : Nat → Int64) (wiM : Int32) (moM : Int64) (waM : Int32) (wkM : Nat → Int64) (wvM : Nat → Int64), wp_M_fill_L23 x3 x5 post n x6 x7 x9 ceM fM kM vM wiM moM waM wkM wvM → ∀ (H : Heap) (locs : List Loc) (ls : Array Slot), va_P D vwCl (wM g q leM ceM fM kM vM wiM moM waM wkM wvM) H → va_D A (wM g q leM ceM fM kM vM wiM moM waM wkM wvM) → va_S A s.heap H locs → lv_has ls 11 [(0, .ref (g 0)), (3, .long x3), (5, .int x5), (6, .int x6), (7, .long x7), (9, .int x9)] → W p l e { frames := 5, cells := 0, slots := 0, locals := 125 } s m ([.ref (g 0), .long a1, .long a3, .int a5] : List Value).toArray below meth c H locs 0 0 (MQ below (va_Qi (fun r (u : (Int32) × (Nat → Int32) × (Nat → Int64) × (Nat → Int64) × (Int32) × (Int64) × (Int32) × (Nat → Int64) × (Nat → Int64)) => post r u.1 u.2.1 u.2.2.1 u.2.2.2.1 u.2.2.2.2.1 u.2.2.2.2.2.1 u.2.2.2.2.2.2.1 u.2.2.2.2.2.2.2.1 u.2.2.2.2.2.2.2.2) (qB D vwCl (tM q) (fun u : (Int32) × (Nat → Int32) × (Nat → Int64) × (Nat → Int64) × (Int32) × (Int64) × (Int32) × (Nat → Int64) × (Nat → Int64) => (wM g q leM u.1 u.2.1 u.2.2.1 u.2.2.2.1 u.2.2.2.2.1 u.2.2.2.2.2.1 u.2.2.2.2.2.2.1 u.2.2.2.2.2.2.2.1 u.2.2.2.2.2.2.2.2)) A) A) ([.ref (g 0), .long a1, .long a3, .int a5] : List Value).toArray s 0 0 A) (F0 m 23 ls []) := by
    intro x3 x5 n
    induction n with
    | zero => intro x6 x7 x9 ceM fM kM vM wiM moM waM wkM wvM hw; exact False.elim (show False from hw)
    | succ n ih =>
      intro x6 x7 x9 ceM fM kM vM wiM moM waM wkM wvM hw H locs ls hP hD hS hl
      rw [wp_M_fill_L23] at hw
      refine lv_iload hx hb dX1_fill_23 (lv_at hl 5 rfl) ?_
      refine lv_iload hx hb dX1_fill_25 (lv_at hl 2 rfl) ?_
      refine lv_icmp_ge (tgt := 68) hx hb dX1_fill_27 (by decide) (fun c_3 => ?_) (fun c_3 => ?_)
      · replace hw := hw.1 c_3
        refine lv_iload hx hb dX1_fill_68 (lv_at hl 3 rfl) ?_
        exact q_iret (ceM, fM, kM, vM, wiM, moM, waM, wkM, wvM) hx hb hr hlocks hK dX1_fill_70 hS hP hD hw
      · replace hw := hw.2 c_3
        refine lv_aload_n hx hb dX1_fill_30 rfl (lv_at hl 0 rfl) ?_
        refine lv_lload hx hb dX1_fill_31 (lv_at hl 4 rfl) ?_
        refine lv_iload hx hb dX1_fill_33 (lv_at hl 5 rfl) ?_
        refine lv_i2l hx hb dX1_fill_35 rfl ?_
        refine q_callVi (As := [.long x7, .long x9.toInt64]) (rest := []) (wr := []) [0, 1, 2, 3, 4, 5] [] ⟨hx, hb, hml, hown, hts⟩ (c_M_put l D g q leM ceM fM kM vM wiM moM waM wkM wvM x7 x9.toInt64 _ hw _) (cwV 2 hts gX1_fill_X1_put rfl rfl rfl (by decide +kernel) ⟨Nat.le_of_ble_eq_true rfl, Nat.le_of_ble_eq_true rfl⟩) (va_recv hK hP (ci := 1) (q0 := 0) rfl rfl) hK hP hD hS hA rfl rfl rfl (by decide) (by decide) (by decide) rfl hl.1 rfl (Nat.le_of_ble_eq_true rfl) dX1_fill_36 ⟨Nat.zero_le _, Nat.zero_le _⟩ (fun r_4 u H locs hw hP hD hS => ?_)
        obtain ⟨ceM_5, fM_6, kM_7, vM_8, wiM_9, moM_10, waM_11, wkM_12, wvM_13⟩ := u
        try dsimp only at hw
        replace hP : va_P D vwCl (wM g q leM ceM_5 fM_6 kM_7 vM_8 wiM_9 moM_10 waM_11 wkM_12 wvM_13) H := hP
        replace hD : va_D A (wM g q leM ceM_5 fM_6 kM_7 vM_8 wiM_9 moM_10 waM_11 wkM_12 wvM_13) := hD
        refine lv_istore (lv' := [(10, .int r_4), (0, .ref (g 0)), (3, .long x3), (5, .int x5), (6, .int x6), (7, .long x7), (9, .int x9)]) hx hb dX1_fill_39 hl (by decide) rfl (fun ls hl => ?_)
        refine lv_iload hx hb dX1_fill_41 (lv_at hl 0 rfl) ?_
        refine lv_if_ge (tgt := 49) hx hb dX1_fill_43 (by decide) (fun c_14 => ?_) (fun c_14 => ?_)
        · replace hw := hw.1 c_14
          refine lv_iload hx hb dX1_fill_49 (lv_at hl 4 rfl) ?_
          refine lv_iload hx hb dX1_fill_51 (lv_at hl 0 rfl) ?_
          refine lv_iadd hx hb dX1_fill_53 ?_
          refine lv_istore (lv' := [(6, .int (x6 + r_4)), (10, .int r_4), (0, .ref (g 0)), (3, .long x3), (5, .int x5), (7, .long x7), (9, .int x9)]) hx hb dX1_fill_54 hl (by decide) rfl (fun ls hl => ?_)
          refine lv_lload hx hb dX1_fill_56 (lv_at hl 5 rfl) ?_
          refine lv_lload_n hx hb dX1_fill_58 rfl (lv_at hl 3 rfl) ?_
          refine lv_ladd hx hb dX1_fill_59 ?_
          refine lv_lstore (lv' := [(7, .long (x7 + x3)), (6, .int (x6 + r_4)), (10, .int r_4), (0, .ref (g 0)), (3, .long x3), (5, .int x5), (9, .int x9)]) hx hb dX1_fill_60 hl (by decide) rfl (fun ls hl => ?_)
          refine lv_iinc (v := (x9 + 1)) (lv' := [(9, .int (x9 + 1)), (7, .long (x7 + x3)), (6, .int (x6 + r_4)), (10, .int r_4), (0, .ref (g 0)), (3, .long x3), (5, .int x5)]) hx hb dX1_fill_62 hl (k := 6) rfl rfl (by decide) rfl (fun ls hl => ?_)
          refine lv_goto (tgt := 23) hx hb dX1_fill_65 (by decide) ?_
          exact ih (x6 + r_4) (x7 + x3) (x9 + 1) ceM_5 fM_6 kM_7 vM_8 wiM_9 moM_10 waM_11 wkM_12 wvM_13 hw _ _ ls hP hD hS (lv_sub hl [4, 5, 6, 2, 1, 0] rfl)
        · replace hw := hw.2 c_14
          refine lv_iload hx hb dX1_fill_46 (lv_at hl 4 rfl) ?_
          exact q_iret (ceM_5, fM_6, kM_7, vM_8, wiM_9, moM_10, waM_11, wkM_12, wvM_13) hx hb hr hlocks hK dX1_fill_48 hS hP hD hw
  unfold wp_M_fill at hw
  refine lv_iload hx hb dX1_fill_0 (lv_at hl 3 rfl) ?_
  refine lv_if_lt (tgt := 12) hx hb dX1_fill_2 (by decide) (fun c_1 => ?_) (fun c_1 => ?_)
  · replace hw := hw.1 c_1
    refine lv_iconst (v := (-1)) hx hb dX1_fill_12 (by decide) ?_
    exact q_iret (ceM, fM, kM, vM, wiM, moM, waM, wkM, wvM) hx hb hr hlocks hK dX1_fill_13 hS hP hD hw
  · replace hw := hw.2 c_1
    refine lv_iload hx hb dX1_fill_5 (lv_at hl 3 rfl) ?_
    refine lv_bipush (v := 64) hx hb dX1_fill_7 (by decide) ?_
    refine lv_icmp_le (tgt := 14) hx hb dX1_fill_9 (by decide) (fun c_2 => ?_) (fun c_2 => ?_)
    · replace hw := hw.1 c_2
      refine lv_iconst (v := 0) hx hb dX1_fill_14 (by decide) ?_
      refine lv_istore (lv' := [(6, .int 0), (0, .ref (g 0)), (1, .long a1), (3, .long a3), (5, .int a5)]) hx hb dX1_fill_15 hl (by decide) rfl (fun ls hl => ?_)
      refine lv_lload_n hx hb dX1_fill_17 rfl (lv_at hl 2 rfl) ?_
      refine lv_lstore (lv' := [(7, .long a1), (6, .int 0), (0, .ref (g 0)), (1, .long a1), (3, .long a3), (5, .int a5)]) hx hb dX1_fill_18 hl (by decide) rfl (fun ls hl => ?_)
      refine lv_iconst (v := 0) hx hb dX1_fill_20 (by decide) ?_
      refine lv_istore (lv' := [(9, .int 0), (7, .long a1), (6, .int 0), (0, .ref (g 0)), (1, .long a1), (3, .long a3), (5, .int a5)]) hx hb dX1_fill_21 hl (by decide) rfl (fun ls hl => ?_)
      obtain ⟨n0, hw⟩ := hw
      exact L23 a3 a5 n0 0 a1 0 ceM fM kM vM wiM moM waM wkM wvM hw _ _ ls hP hD hS (lv_sub hl [3, 5, 6, 2, 1, 0] rfl)
    · replace hw := hw.2 c_2
      refine lv_iconst (v := (-1)) hx hb dX1_fill_12 (by decide) ?_
      exact q_iret (ceM, fM, kM, vM, wiM, moM, waM, wkM, wvM) hx hb hr hlocks hK dX1_fill_13 hS hP hD hw
set_option maxHeartbeats 4000000 in
set_option maxRecDepth 100000 in
theorem c_M_remove (l : Launch) (D : va_G) (g : Nat → Nat) (q : Nat → ClassId) (leM : Int32) (ceM : Int32) (fM : Nat → Int32) (kM : Nat → Int64) (vM : Nat → Int64) (wiM : Int32) (moM : Int64) (waM : Int32) (wkM : Nat → Int64) (wvM : Nat → Int64) (a1 : Int64) (post : Int32 → (Int32) → (Nat → Int32) → (Nat → Int64) → (Nat → Int64) → (Int32) → (Int64) → (Int32) → (Nat → Int64) → (Nat → Int64) → Prop) (hw : wp_M_remove leM ceM fM kM vM wiM moM waM wkM wvM a1 post) (sz : Nat) : Met l yX1_remove wsX1_remove ({ frames := 3, cells := 0, slots := 0, locals := 64 }) (qP D vwCl (tM q) (wM g q leM ceM fM kM vM wiM moM waM wkM wvM) sz [.ref (g 0), .long a1]) (va_Qi (fun r (u : (Int32) × (Nat → Int32) × (Nat → Int64) × (Nat → Int64) × (Int32) × (Int64) × (Int32) × (Nat → Int64) × (Nat → Int64)) => post r u.1 u.2.1 u.2.2.1 u.2.2.2.1 u.2.2.2.2.1 u.2.2.2.2.2.1 u.2.2.2.2.2.2.1 u.2.2.2.2.2.2.2.1 u.2.2.2.2.2.2.2.2) (qB D vwCl (tM q) (fun u : (Int32) × (Nat → Int32) × (Nat → Int64) × (Nat → Int64) × (Int32) × (Int64) × (Int32) × (Nat → Int64) × (Nat → Int64) => (wM g q leM u.1 u.2.1 u.2.2.1 u.2.2.2.1 u.2.2.2.2.1 u.2.2.2.2.2.1 u.2.2.2.2.2.2.1 u.2.2.2.2.2.2.2.1 u.2.2.2.2.2.2.2.2)) (va_A (wM g q leM ceM fM kM vM wiM moM waM wkM wvM) sz)) (va_A (wM g q leM ceM fM kM vM wiM moM waM wkM wvM) sz)) 0 0 (va_A (wM g q leM ceM fM kM vM wiM moM waM wkM wvM) sz) := by
  refine q_enter (cc := cX1_remove) (maxL := 7) (ret := (some .boolean)) (fun A => va_Qi (fun r (u : (Int32) × (Nat → Int32) × (Nat → Int64) × (Nat → Int64) × (Int32) × (Int64) × (Int32) × (Nat → Int64) × (Nat → Int64)) => post r u.1 u.2.1 u.2.2.1 u.2.2.2.1 u.2.2.2.2.1 u.2.2.2.2.2.1 u.2.2.2.2.2.2.1 u.2.2.2.2.2.2.2.1 u.2.2.2.2.2.2.2.2) (qB D vwCl (tM q) (fun u : (Int32) × (Nat → Int32) × (Nat → Int64) × (Nat → Int64) × (Int32) × (Int64) × (Int32) × (Nat → Int64) × (Nat → Int64) => (wM g q leM u.1 u.2.1 u.2.2.1 u.2.2.2.1 u.2.2.2.2.1 u.2.2.2.2.2.1 u.2.2.2.2.2.2.1 u.2.2.2.2.2.2.2.1 u.2.2.2.2.2.2.2.2)) A) A) (by decide +kernel) rfl (Nat.le_of_ble_eq_true rfl) ?_
  intro p e s m below meth c A ls hx hb hr hml hown hts hlocks hname hP hK hD hA hl
  replace hown : s.vm.findClass RX1 = some m.cls := hown
  replace hl : lv_has ls 7 [(0, .ref (g 0)), (1, .long a1)] := hl
  have hS : va_S A s.heap s.heap [] := va_S.rf
  have hf_least := hts _ (List.mem_cons_of_mem _ tfl_X1_30)
  have hf_cells := hts _ (List.mem_cons_of_mem _ tfl_X1_33)
  have hf_full := hts _ (List.mem_cons_of_mem _ tfl_X1_7)
  have L28 : ∀ (x3 : Int32) (x4 : Int32) (n : Nat) (x5 : Int32) (ceM : Int32) (fM : Nat → Int32) (kM : Nat → Int64) (vM : Nat → Int64) (wiM : Int32) (moM : Int64) (waM : Int32) (wkM : Nat → Int64) (wvM : Nat → Int64), wp_M_remove_L28 leM x3 x4 post n x5 ceM fM kM vM wiM moM waM wkM wvM → ∀ (H : Heap) (locs : List Loc) (ls : Array Slot), va_P D vwCl (wM g q leM ceM fM kM vM wiM moM waM wkM wvM) H → va_D A (wM g q leM ceM fM kM vM wiM moM waM wkM wvM) → va_S A s.heap H locs → lv_has ls 7 [(0, .ref (g 0)), (3, .int x3), (4, .int x4), (5, .int x5)] → W p l e { frames := 3, cells := 0, slots := 0, locals := 64 } s m ([.ref (g 0), .long a1] : List Value).toArray below meth c H locs 0 0 (MQ below (va_Qi (fun r (u : (Int32) × (Nat → Int32) × (Nat → Int64) × (Nat → Int64) × (Int32) × (Int64) × (Int32) × (Nat → Int64) × (Nat → Int64)) => post r u.1 u.2.1 u.2.2.1 u.2.2.2.1 u.2.2.2.2.1 u.2.2.2.2.2.1 u.2.2.2.2.2.2.1 u.2.2.2.2.2.2.2.1 u.2.2.2.2.2.2.2.2) (qB D vwCl (tM q) (fun u : (Int32) × (Nat → Int32) × (Nat → Int64) × (Nat → Int64) × (Int32) × (Int64) × (Int32) × (Nat → Int64) × (Nat → Int64) => (wM g q leM u.1 u.2.1 u.2.2.1 u.2.2.2.1 u.2.2.2.2.1 u.2.2.2.2.2.1 u.2.2.2.2.2.2.1 u.2.2.2.2.2.2.2.1 u.2.2.2.2.2.2.2.2)) A) A) ([.ref (g 0), .long a1] : List Value).toArray s 0 0 A) (F0 m 28 ls []) := by
    intro x3 x4 n
    induction n with
    | zero => intro x5 ceM fM kM vM wiM moM waM wkM wvM hw; exact False.elim (show False from hw)
    | succ n ih =>
      intro x5 ceM fM kM vM wiM moM waM wkM wvM hw H locs ls hP hD hS hl
      rw [wp_M_remove_L28] at hw
      refine lv_iload hx hb dX1_remove_28 (lv_at hl 3 rfl) ?_
      refine lv_iload hx hb dX1_remove_30 (lv_at hl 2 rfl) ?_
      refine lv_icmp_gt (tgt := 93) hx hb dX1_remove_32 (by decide) (fun c_5 => ?_) (fun c_5 => ?_)
      · replace hw := hw.1 c_5
        refine lv_aload_n hx hb dX1_remove_93 rfl (lv_at hl 0 rfl) ?_
        refine va_get (D := D) (ci := 1) (v := .int ceM) (C := RX1) (T := TX1) (N := 10) hx hb hts (fun w h => List.mem_cons_of_mem _ (iX1 w h)) hown hK hP 0 rfl rfl 1 (by decide) hf_cells (fun _ h9 => h9) rfl dX1_remove_94 ?_
        refine lv_aload_n hx hb dX1_remove_97 rfl (lv_at hl 0 rfl) ?_
        refine va_get (D := D) (ci := 1) (v := .int leM) (C := RX1) (T := TX1) (N := 10) hx hb hts (fun w h => List.mem_cons_of_mem _ (iX1 w h)) hown hK hP 0 rfl rfl 0 (by decide) hf_least (fun _ h9 => h9) rfl dX1_remove_98 ?_
        refine lv_icmp_le (tgt := 132) hx hb dX1_remove_101 (by decide) (fun c_6 => ?_) (fun c_6 => ?_)
        · replace hw := hw.1 c_6
          refine lv_iconst (v := 1) hx hb dX1_remove_132 (by decide) ?_
          exact q_zret (ceM, fM, kM, vM, wiM, moM, waM, wkM, wvM) hx hb hr (by decide) hlocks hK dX1_remove_133 hS hP hD hw
        · replace hw := hw.2 c_6
          refine lv_aload_n hx hb dX1_remove_104 rfl (lv_at hl 0 rfl) ?_
          refine lv_iconst (v := 0) hx hb dX1_remove_105 (by decide) ?_
          refine lv_aload_n hx hb dX1_remove_106 rfl (lv_at hl 0 rfl) ?_
          refine va_get (D := D) (ci := 1) (v := .int ceM) (C := RX1) (T := TX1) (N := 10) hx hb hts (fun w h => List.mem_cons_of_mem _ (iX1 w h)) hown hK hP 0 rfl rfl 1 (by decide) hf_cells (fun _ h9 => h9) rfl dX1_remove_107 ?_
          refine q_callVv (As := [.int 0, .int ceM]) (rest := []) (wr := []) [0, 1, 2, 3, 4, 5] [] ⟨hx, hb, hml, hown, hts⟩ (c_M_lift l D g q leM ceM fM kM vM wiM moM waM wkM wvM 0 ceM _ hw _) (cwV 2 hts gX1_remove_X1_lift rfl rfl rfl (by decide +kernel) ⟨Nat.le_of_ble_eq_true rfl, Nat.le_of_ble_eq_true rfl⟩) (va_recv hK hP (ci := 1) (q0 := 0) rfl rfl) hK hP hD hS hA rfl rfl rfl (by decide) (by decide) (by decide) rfl hl.1 rfl (Nat.le_of_ble_eq_true rfl) dX1_remove_110 ⟨Nat.zero_le _, Nat.zero_le _⟩ (fun u H locs hw hP hD hS => ?_)
          obtain ⟨fM_7, waM_8, wkM_9, wvM_10⟩ := u
          try dsimp only at hw
          replace hP : va_P D vwCl (wM g q leM ceM fM_7 kM vM wiM moM waM_8 wkM_9 wvM_10) H := hP
          replace hD : va_D A (wM g q leM ceM fM_7 kM vM wiM moM waM_8 wkM_9 wvM_10) := hD
          refine lv_aload_n hx hb dX1_remove_113 rfl (lv_at hl 0 rfl) ?_
          refine lv_aload_n hx hb dX1_remove_114 rfl (lv_at hl 0 rfl) ?_
          refine va_get (D := D) (ci := 1) (v := .int ceM) (C := RX1) (T := TX1) (N := 10) hx hb hts (fun w h => List.mem_cons_of_mem _ (iX1 w h)) hown hK hP 0 rfl rfl 1 (by decide) hf_cells (fun _ h9 => h9) rfl dX1_remove_115 ?_
          refine lv_iconst (v := 2) hx hb dX1_remove_118 (by decide) ?_
          refine lv_idiv hx hb dX1_remove_119 (by decide) ?_
          refine va_put (D := D) (ci := 1) (v := .int (ceM / 2)) (ty := .int) (C := RX1) (T := TX1) (N := 10) hx hb hts (fun w h => List.mem_cons_of_mem _ (iX1 w h)) tyX1 tyX1_ok nmX1 hown hK hP hD hS 0 rfl rfl 1 (by decide) hf_cells (fun _ h9 => h9) rfl (by decide +kernel) rfl rfl (Nat.le_of_ble_eq_true rfl) dX1_remove_120 (fun H locs hP hD hS => ?_)
          replace hP : va_P D vwCl (wM g q leM (ceM / 2) fM_7 kM vM wiM moM waM_8 wkM_9 wvM_10) H := hP
          replace hD : va_D A (wM g q leM (ceM / 2) fM_7 kM vM wiM moM waM_8 wkM_9 wvM_10) := hD
          refine lv_aload_n hx hb dX1_remove_123 rfl (lv_at hl 0 rfl) ?_
          refine lv_iconst (v := 0) hx hb dX1_remove_124 (by decide) ?_
          refine lv_iload hx hb dX1_remove_125 (lv_at hl 2 rfl) ?_
          refine lv_iconst (v := 1) hx hb dX1_remove_127 (by decide) ?_
          refine lv_isub hx hb dX1_remove_128 ?_
          refine q_callVv (As := [.int 0, .int (x4 - 1)]) (rest := []) (wr := []) [0, 1, 2, 3, 4, 5] [] ⟨hx, hb, hml, hown, hts⟩ (c_M_spread l D g q leM (ceM / 2) fM_7 kM vM wiM moM waM_8 wkM_9 wvM_10 0 (x4 - 1) _ hw _) (cwV 2 hts gX1_remove_X1_spread rfl rfl rfl (by decide +kernel) ⟨Nat.le_of_ble_eq_true rfl, Nat.le_of_ble_eq_true rfl⟩) (va_recv hK hP (ci := 1) (q0 := 0) rfl rfl) hK hP hD hS hA rfl rfl rfl (by decide) (by decide) (by decide) rfl hl.1 rfl (Nat.le_of_ble_eq_true rfl) dX1_remove_129 ⟨Nat.zero_le _, Nat.zero_le _⟩ (fun u H locs hw hP hD hS => ?_)
          obtain ⟨fM_11, kM_12, vM_13, wiM_14, moM_15, waM_16⟩ := u
          try dsimp only at hw
          replace hP : va_P D vwCl (wM g q leM (ceM / 2) fM_11 kM_12 vM_13 wiM_14 moM_15 waM_16 wkM_9 wvM_10) H := hP
          replace hD : va_D A (wM g q leM (ceM / 2) fM_11 kM_12 vM_13 wiM_14 moM_15 waM_16 wkM_9 wvM_10) := hD
          refine lv_iconst (v := 1) hx hb dX1_remove_132 (by decide) ?_
          exact q_zret ((ceM / 2), fM_11, kM_12, vM_13, wiM_14, moM_15, waM_16, wkM_9, wvM_10) hx hb hr (by decide) hlocks hK dX1_remove_133 hS hP hD hw
      · replace hw := hw.2 c_5
        refine lv_iload_n hx hb dX1_remove_35 rfl (lv_at hl 1 rfl) ?_
        refine lv_bipush (v := 8) hx hb dX1_remove_36 (by decide) ?_
        refine lv_idiv hx hb dX1_remove_38 (by decide) ?_
        refine lv_iload hx hb dX1_remove_39 (lv_at hl 3 rfl) ?_
        refine q_callSi (As := [.int (x3 / 8), .int x5]) (rest := []) (wr := (wM g q leM ceM fM kM vM wiM moM waM wkM wvM)) [] [0, 1, 2, 3, 4, 5] ⟨hx, hb, hml, hown, hts⟩ (c_M_firstOf l D (x3 / 8) x5 _ hw _) (va_cwS 2 hts gX1_remove_X1_firstOf rfl rfl rfl (by decide +kernel) ⟨Nat.le_of_ble_eq_true rfl, Nat.le_of_ble_eq_true rfl⟩) (hK.sub (tys' := []) [] rfl) hP hD hS hA rfl rfl rfl (by decide) (by decide) (by decide) rfl hl.1 rfl (Nat.le_of_ble_eq_true rfl) dX1_remove_41 ⟨Nat.zero_le _, Nat.zero_le _⟩ (fun r_17 u H locs hw hP hD hS => ?_)
        try dsimp only at hw
        replace hP : va_P D vwCl (wM g q leM ceM fM kM vM wiM moM waM wkM wvM) H := hP
        replace hD : va_D A (wM g q leM ceM fM kM vM wiM moM waM wkM wvM) := hD
        refine lv_istore (lv' := [(6, .int r_17), (0, .ref (g 0)), (3, .int x3), (4, .int x4), (5, .int x5)]) hx hb dX1_remove_44 hl (by decide) rfl (fun ls hl => ?_)
        refine lv_aload_n hx hb dX1_remove_46 rfl (lv_at hl 1 rfl) ?_
        refine lv_iload hx hb dX1_remove_47 (lv_at hl 0 rfl) ?_
        refine lv_bipush (v := 8) hx hb dX1_remove_49 (by decide) ?_
        refine lv_iload hx hb dX1_remove_51 (lv_at hl 4 rfl) ?_
        refine lv_ishl hx hb dX1_remove_53 ?_
        refine q_callVi (As := [.int r_17, .int ((8 : Int32) <<< (x5 &&& 31))]) (rest := []) (wr := []) [0, 1, 2, 3, 4, 5] [] ⟨hx, hb, hml, hown, hts⟩ (c_M_held l D g q leM ceM fM kM vM wiM moM waM wkM wvM r_17 ((8 : Int32) <<< (x5 &&& 31)) _ hw _) (cwV 2 hts gX1_remove_X1_held rfl rfl rfl (by decide +kernel) ⟨Nat.le_of_ble_eq_true rfl, Nat.le_of_ble_eq_true rfl⟩) (va_recv hK hP (ci := 1) (q0 := 0) rfl rfl) hK hP hD hS hA rfl rfl rfl (by decide) (by decide) (by decide) rfl hl.1 rfl (Nat.le_of_ble_eq_true rfl) dX1_remove_54 ⟨Nat.zero_le _, Nat.zero_le _⟩ (fun r_18 u H locs hw hP hD hS => ?_)
        try dsimp only at hw
        replace hP : va_P D vwCl (wM g q leM ceM fM kM vM wiM moM waM wkM wvM) H := hP
        replace hD : va_D A (wM g q leM ceM fM kM vM wiM moM waM wkM wvM) := hD
        refine lv_aload_n hx hb dX1_remove_57 rfl (lv_at hl 1 rfl) ?_
        refine lv_iload hx hb dX1_remove_58 (lv_at hl 4 rfl) ?_
        refine q_callVi (As := [.int x5]) (rest := [.int r_18]) (wr := []) [0, 1, 2, 3, 4, 5] [] ⟨hx, hb, hml, hown, hts⟩ (c_M_fewest l D g q leM ceM fM kM vM wiM moM waM wkM wvM x5 _ hw _) (cwV 1 hts gX1_remove_X1_fewest rfl rfl rfl (by decide +kernel) ⟨Nat.le_of_ble_eq_true rfl, Nat.le_of_ble_eq_true rfl⟩) (va_recv hK hP (ci := 1) (q0 := 0) rfl rfl) hK hP hD hS hA rfl rfl rfl (by decide) (by decide) (by decide) rfl hl.1 rfl (Nat.le_of_ble_eq_true rfl) dX1_remove_60 ⟨Nat.zero_le _, Nat.zero_le _⟩ (fun r_19 u H locs hw hP hD hS => ?_)
        try dsimp only at hw
        replace hP : va_P D vwCl (wM g q leM ceM fM kM vM wiM moM waM wkM wvM) H := hP
        replace hD : va_D A (wM g q leM ceM fM kM vM wiM moM waM wkM wvM) := hD
        refine lv_icmp_lt (tgt := 87) hx hb dX1_remove_63 (by decide) (fun c_20 => ?_) (fun c_20 => ?_)
        · replace hw := hw.1 c_20
          refine lv_iinc (v := (x5 + 1)) (lv' := [(5, .int (x5 + 1)), (6, .int r_17), (0, .ref (g 0)), (3, .int x3), (4, .int x4)]) hx hb dX1_remove_87 hl (k := 4) rfl rfl (by decide) rfl (fun ls hl => ?_)
          refine lv_goto (tgt := 28) hx hb dX1_remove_90 (by decide) ?_
          exact ih (x5 + 1) ceM fM kM vM wiM moM waM wkM wvM hw _ _ ls hP hD hS (lv_sub hl [2, 3, 4, 0] rfl)
        · replace hw := hw.2 c_20
          refine lv_aload_n hx hb dX1_remove_66 rfl (lv_at hl 1 rfl) ?_
          refine lv_iload hx hb dX1_remove_67 (lv_at hl 0 rfl) ?_
          refine lv_bipush (v := 8) hx hb dX1_remove_69 (by decide) ?_
          refine lv_iload hx hb dX1_remove_71 (lv_at hl 4 rfl) ?_
          refine lv_ishl hx hb dX1_remove_73 ?_
          refine q_callVv (As := [.int r_17, .int ((8 : Int32) <<< (x5 &&& 31))]) (rest := []) (wr := []) [0, 1, 2, 3, 4, 5] [] ⟨hx, hb, hml, hown, hts⟩ (c_M_lift l D g q leM ceM fM kM vM wiM moM waM wkM wvM r_17 ((8 : Int32) <<< (x5 &&& 31)) _ hw _) (cwV 2 hts gX1_remove_X1_lift rfl rfl rfl (by decide +kernel) ⟨Nat.le_of_ble_eq_true rfl, Nat.le_of_ble_eq_true rfl⟩) (va_recv hK hP (ci := 1) (q0 := 0) rfl rfl) hK hP hD hS hA rfl rfl rfl (by decide) (by decide) (by decide) rfl hl.1 rfl (Nat.le_of_ble_eq_true rfl) dX1_remove_74 ⟨Nat.zero_le _, Nat.zero_le _⟩ (fun u H locs hw hP hD hS => ?_)
          obtain ⟨fM_21, waM_22, wkM_23, wvM_24⟩ := u
          try dsimp only at hw
          replace hP : va_P D vwCl (wM g q leM ceM fM_21 kM vM wiM moM waM_22 wkM_23 wvM_24) H := hP
          replace hD : va_D A (wM g q leM ceM fM_21 kM vM wiM moM waM_22 wkM_23 wvM_24) := hD
          refine lv_aload_n hx hb dX1_remove_77 rfl (lv_at hl 1 rfl) ?_
          refine lv_iload hx hb dX1_remove_78 (lv_at hl 0 rfl) ?_
          refine lv_iload hx hb dX1_remove_80 (lv_at hl 4 rfl) ?_
          refine q_callVv (As := [.int r_17, .int x5]) (rest := []) (wr := []) [0, 1, 2, 3, 4, 5] [] ⟨hx, hb, hml, hown, hts⟩ (c_M_spread l D g q leM ceM fM_21 kM vM wiM moM waM_22 wkM_23 wvM_24 r_17 x5 _ hw _) (cwV 2 hts gX1_remove_X1_spread rfl rfl rfl (by decide +kernel) ⟨Nat.le_of_ble_eq_true rfl, Nat.le_of_ble_eq_true rfl⟩) (va_recv hK hP (ci := 1) (q0 := 0) rfl rfl) hK hP hD hS hA rfl rfl rfl (by decide) (by decide) (by decide) rfl hl.1 rfl (Nat.le_of_ble_eq_true rfl) dX1_remove_82 ⟨Nat.zero_le _, Nat.zero_le _⟩ (fun u H locs hw hP hD hS => ?_)
          obtain ⟨fM_25, kM_26, vM_27, wiM_28, moM_29, waM_30⟩ := u
          try dsimp only at hw
          replace hP : va_P D vwCl (wM g q leM ceM fM_25 kM_26 vM_27 wiM_28 moM_29 waM_30 wkM_23 wvM_24) H := hP
          replace hD : va_D A (wM g q leM ceM fM_25 kM_26 vM_27 wiM_28 moM_29 waM_30 wkM_23 wvM_24) := hD
          refine lv_iconst (v := 1) hx hb dX1_remove_85 (by decide) ?_
          exact q_zret (ceM, fM_25, kM_26, vM_27, wiM_28, moM_29, waM_30, wkM_23, wvM_24) hx hb hr (by decide) hlocks hK dX1_remove_86 hS hP hD hw
  unfold wp_M_remove at hw
  refine lv_aload_n hx hb dX1_remove_0 rfl (lv_at hl 0 rfl) ?_
  refine lv_lload_n hx hb dX1_remove_1 rfl (lv_at hl 1 rfl) ?_
  refine q_callVi (As := [.long a1]) (rest := []) (wr := []) [0, 1, 2, 3, 4, 5] [] ⟨hx, hb, hml, hown, hts⟩ (c_M_cellOf l D g q leM ceM fM kM vM wiM moM waM wkM wvM a1 _ hw _) (cwV 1 hts gX1_remove_X1_cellOf rfl rfl rfl (by decide +kernel) ⟨Nat.le_of_ble_eq_true rfl, Nat.le_of_ble_eq_true rfl⟩) (va_recv hK hP (ci := 1) (q0 := 0) rfl rfl) hK hP hD hS hA rfl rfl rfl (by decide) (by decide) (by decide) rfl hl.1 rfl (Nat.le_of_ble_eq_true rfl) dX1_remove_2 ⟨Nat.zero_le _, Nat.zero_le _⟩ (fun r_1 u H locs hw hP hD hS => ?_)
  try dsimp only at hw
  replace hP : va_P D vwCl (wM g q leM ceM fM kM vM wiM moM waM wkM wvM) H := hP
  replace hD : va_D A (wM g q leM ceM fM kM vM wiM moM waM wkM wvM) := hD
  refine lv_istore_n (lv' := [(3, .int r_1), (0, .ref (g 0)), (1, .long a1)]) hx hb dX1_remove_5 rfl hl (by decide) rfl (fun ls hl => ?_)
  refine lv_iload_n hx hb dX1_remove_6 rfl (lv_at hl 0 rfl) ?_
  refine lv_if_ge (tgt := 12) hx hb dX1_remove_7 (by decide) (fun c_2 => ?_) (fun c_2 => ?_)
  · replace hw := hw.1 c_2
    refine lv_aload_n hx hb dX1_remove_12 rfl (lv_at hl 1 rfl) ?_
    refine va_get (D := D) (ci := 1) (v := .ref (g 1)) (C := RX1) (T := TX1) (N := 10) hx hb hts (fun w h => List.mem_cons_of_mem _ (iX1 w h)) hown hK hP 0 rfl rfl 2 (by decide) hf_full (fun _ h9 => h9) rfl dX1_remove_13 ?_
    refine lv_iload_n hx hb dX1_remove_16 rfl (lv_at hl 0 rfl) ?_
    refine lv_iconst (v := 0) hx hb dX1_remove_17 (by decide) ?_
    obtain ⟨hi_3, hw⟩ := hw
    refine va_zast hx hb hK hP hD hS 1 0 rfl rfl hi_3 dX1_remove_18 (fun H locs hP hD hS => ?_)
    replace hP : va_P D vwCl (wM g q leM ceM (upd fM r_1.toNatClampNeg (vp_nar .boolean 0)) kM vM wiM moM waM wkM wvM) H := hP
    replace hD : va_D A (wM g q leM ceM (upd fM r_1.toNatClampNeg (vp_nar .boolean 0)) kM vM wiM moM waM wkM wvM) := hD
    refine lv_aload_n hx hb dX1_remove_19 rfl (lv_at hl 1 rfl) ?_
    refine q_callVi (As := []) (rest := []) (wr := []) [0, 1, 2, 3, 4, 5] [] ⟨hx, hb, hml, hown, hts⟩ (c_M_levels l D g q leM ceM (upd fM r_1.toNatClampNeg (vp_nar .boolean 0)) kM vM wiM moM waM wkM wvM  _ hw _) (cwV 0 hts gX1_remove_X1_levels rfl rfl rfl (by decide +kernel) ⟨Nat.le_of_ble_eq_true rfl, Nat.le_of_ble_eq_true rfl⟩) (va_recv hK hP (ci := 1) (q0 := 0) rfl rfl) hK hP hD hS hA rfl rfl rfl (by decide) (by decide) (by decide) rfl hl.1 rfl (Nat.le_of_ble_eq_true rfl) dX1_remove_20 ⟨Nat.zero_le _, Nat.zero_le _⟩ (fun r_4 u H locs hw hP hD hS => ?_)
    try dsimp only at hw
    replace hP : va_P D vwCl (wM g q leM ceM (upd fM r_1.toNatClampNeg (vp_nar .boolean 0)) kM vM wiM moM waM wkM wvM) H := hP
    replace hD : va_D A (wM g q leM ceM (upd fM r_1.toNatClampNeg (vp_nar .boolean 0)) kM vM wiM moM waM wkM wvM) := hD
    refine lv_istore (lv' := [(4, .int r_4), (3, .int r_1), (0, .ref (g 0)), (1, .long a1)]) hx hb dX1_remove_23 hl (by decide) rfl (fun ls hl => ?_)
    refine lv_iconst (v := 0) hx hb dX1_remove_25 (by decide) ?_
    refine lv_istore (lv' := [(5, .int 0), (4, .int r_4), (3, .int r_1), (0, .ref (g 0)), (1, .long a1)]) hx hb dX1_remove_26 hl (by decide) rfl (fun ls hl => ?_)
    obtain ⟨n0, hw⟩ := hw
    exact L28 r_1 r_4 n0 0 ceM (upd fM r_1.toNatClampNeg (vp_nar .boolean 0)) kM vM wiM moM waM wkM wvM hw _ _ ls hP hD hS (lv_sub hl [3, 2, 1, 0] rfl)
  · replace hw := hw.2 c_2
    refine lv_iconst (v := 0) hx hb dX1_remove_10 (by decide) ?_
    exact q_zret (ceM, fM, kM, vM, wiM, moM, waM, wkM, wvM) hx hb hr (by decide) hlocks hK dX1_remove_11 hS hP hD hw
set_option maxHeartbeats 4000000 in
set_option maxRecDepth 100000 in
theorem c_M_ceiling (l : Launch) (D : va_G) (g : Nat → Nat) (q : Nat → ClassId) (leM : Int32) (ceM : Int32) (fM : Nat → Int32) (kM : Nat → Int64) (vM : Nat → Int64) (wiM : Int32) (moM : Int64) (waM : Int32) (wkM : Nat → Int64) (wvM : Nat → Int64) (a1 : Int64) (post : Int64 → Prop) (hw : wp_M_ceiling ceM fM kM a1 post) (sz : Nat) : Met l yX1_ceiling wsX1_ceiling ({ frames := 0, cells := 0, slots := 0, locals := 0 }) (qP D vwCl (tM q) (wM g q leM ceM fM kM vM wiM moM waM wkM wvM) sz [.ref (g 0), .long a1]) (va_Ql (fun r (_ : Unit) => post r) (qB D vwCl (tM q) (fun _ : Unit => (wM g q leM ceM fM kM vM wiM moM waM wkM wvM)) (va_A (wM g q leM ceM fM kM vM wiM moM waM wkM wvM) sz)) (va_A (wM g q leM ceM fM kM vM wiM moM waM wkM wvM) sz)) 0 0 (va_A (wM g q leM ceM fM kM vM wiM moM waM wkM wvM) sz) := by
  refine q_enter (cc := cX1_ceiling) (maxL := 6) (ret := (some .long)) (fun A => va_Ql (fun r (_ : Unit) => post r) (qB D vwCl (tM q) (fun _ : Unit => (wM g q leM ceM fM kM vM wiM moM waM wkM wvM)) A) A) (by decide +kernel) rfl (Nat.le_of_ble_eq_true rfl) ?_
  intro p e s m below meth c A ls hx hb hr hml hown hts hlocks hname hP hK hD hA hl
  replace hown : s.vm.findClass RX1 = some m.cls := hown
  replace hl : lv_has ls 6 [(0, .ref (g 0)), (1, .long a1)] := hl
  have hS : va_S A s.heap s.heap [] := va_S.rf
  have hf_keys := hts _ (List.mem_cons_of_mem _ tfl_X1_13)
  have hf_cells := hts _ (List.mem_cons_of_mem _ tfl_X1_33)
  have hf_full := hts _ (List.mem_cons_of_mem _ tfl_X1_7)
  have L12 : ∀ (x1 : Int64) (n : Nat) (x3 : Int64) (x5 : Int32), wp_M_ceiling_L12 ceM fM kM x1 post n x3 x5 → ∀ (H : Heap) (locs : List Loc) (ls : Array Slot), va_P D vwCl (wM g q leM ceM fM kM vM wiM moM waM wkM wvM) H → va_D A (wM g q leM ceM fM kM vM wiM moM waM wkM wvM) → va_S A s.heap H locs → lv_has ls 6 [(0, .ref (g 0)), (1, .long x1), (3, .long x3), (5, .int x5)] → W p l e { frames := 0, cells := 0, slots := 0, locals := 0 } s m ([.ref (g 0), .long a1] : List Value).toArray below meth c H locs 0 0 (MQ below (va_Ql (fun r (_ : Unit) => post r) (qB D vwCl (tM q) (fun _ : Unit => (wM g q leM ceM fM kM vM wiM moM waM wkM wvM)) A) A) ([.ref (g 0), .long a1] : List Value).toArray s 0 0 A) (F0 m 12 ls []) := by
    intro x1 n
    induction n with
    | zero => intro x3 x5 hw; exact False.elim (show False from hw)
    | succ n ih =>
      intro x3 x5 hw H locs ls hP hD hS hl
      rw [wp_M_ceiling_L12] at hw
      refine lv_iload hx hb dX1_ceiling_12 (lv_at hl 3 rfl) ?_
      refine lv_if_lt (tgt := 57) hx hb dX1_ceiling_14 (by decide) (fun c_1 => ?_) (fun c_1 => ?_)
      · replace hw := hw.1 c_1
        refine lv_lload_n hx hb dX1_ceiling_57 rfl (lv_at hl 2 rfl) ?_
        exact q_lret () hx hb hr hlocks hK dX1_ceiling_58 hS hP hD hw
      · replace hw := hw.2 c_1
        refine lv_aload_n hx hb dX1_ceiling_17 rfl (lv_at hl 0 rfl) ?_
        refine va_get (D := D) (ci := 1) (v := .ref (g 1)) (C := RX1) (T := TX1) (N := 10) hx hb hts (fun w h => List.mem_cons_of_mem _ (iX1 w h)) hown hK hP 0 rfl rfl 2 (by decide) hf_full (fun _ h9 => h9) rfl dX1_ceiling_18 ?_
        refine lv_iload hx hb dX1_ceiling_21 (lv_at hl 3 rfl) ?_
        obtain ⟨hi_2, hw⟩ := hw
        refine va_zald hx hb hK hP 1 0 rfl rfl hi_2 dX1_ceiling_23 ?_
        refine lv_if_eq (tgt := 49) hx hb dX1_ceiling_24 (by decide) (fun c_3 => ?_) (fun c_3 => ?_)
        · replace hw := hw.1 c_3
          refine lv_lload_n hx hb dX1_ceiling_49 rfl (lv_at hl 2 rfl) ?_
          refine lv_lstore_n (lv' := [(3, .long x3), (0, .ref (g 0)), (1, .long x1), (5, .int x5)]) hx hb dX1_ceiling_50 rfl hl (by decide) rfl (fun ls hl => ?_)
          refine lv_iinc (v := (x5 + (-1))) (lv' := [(5, .int (x5 + (-1))), (3, .long x3), (0, .ref (g 0)), (1, .long x1)]) hx hb dX1_ceiling_51 hl (k := 3) rfl rfl (by decide) rfl (fun ls hl => ?_)
          refine lv_goto (tgt := 12) hx hb dX1_ceiling_54 (by decide) ?_
          exact ih x3 (x5 + (-1)) hw _ _ ls hP hD hS (lv_sub hl [2, 3, 1, 0] rfl)
        · replace hw := hw.2 c_3
          refine lv_aload_n hx hb dX1_ceiling_27 rfl (lv_at hl 0 rfl) ?_
          refine va_get (D := D) (ci := 1) (v := .ref (g 2)) (C := RX1) (T := TX1) (N := 10) hx hb hts (fun w h => List.mem_cons_of_mem _ (iX1 w h)) hown hK hP 0 rfl rfl 3 (by decide) hf_keys (fun _ h9 => h9) rfl dX1_ceiling_28 ?_
          refine lv_iload hx hb dX1_ceiling_31 (lv_at hl 3 rfl) ?_
          refine va_lald hx hb hK hP 2 1 rfl rfl hi_2 dX1_ceiling_33 ?_
          refine lv_lload_n hx hb dX1_ceiling_34 rfl (lv_at hl 1 rfl) ?_
          refine q_lc_lt (tgt := 49) hx hb dX1_ceiling_35 dX1_ceiling_36 (by decide) (fun c_4 => ?_) (fun c_4 => ?_)
          · replace hw := hw.1 c_4
            refine lv_lload_n hx hb dX1_ceiling_49 rfl (lv_at hl 2 rfl) ?_
            refine lv_lstore_n (lv' := [(3, .long x3), (0, .ref (g 0)), (1, .long x1), (5, .int x5)]) hx hb dX1_ceiling_50 rfl hl (by decide) rfl (fun ls hl => ?_)
            refine lv_iinc (v := (x5 + (-1))) (lv' := [(5, .int (x5 + (-1))), (3, .long x3), (0, .ref (g 0)), (1, .long x1)]) hx hb dX1_ceiling_51 hl (k := 3) rfl rfl (by decide) rfl (fun ls hl => ?_)
            refine lv_goto (tgt := 12) hx hb dX1_ceiling_54 (by decide) ?_
            exact ih x3 (x5 + (-1)) hw _ _ ls hP hD hS (lv_sub hl [2, 3, 1, 0] rfl)
          · replace hw := hw.2 c_4
            refine lv_aload_n hx hb dX1_ceiling_39 rfl (lv_at hl 0 rfl) ?_
            refine va_get (D := D) (ci := 1) (v := .ref (g 2)) (C := RX1) (T := TX1) (N := 10) hx hb hts (fun w h => List.mem_cons_of_mem _ (iX1 w h)) hown hK hP 0 rfl rfl 3 (by decide) hf_keys (fun _ h9 => h9) rfl dX1_ceiling_40 ?_
            refine lv_iload hx hb dX1_ceiling_43 (lv_at hl 3 rfl) ?_
            refine va_lald hx hb hK hP 2 1 rfl rfl hi_2 dX1_ceiling_45 ?_
            refine lv_goto (tgt := 50) hx hb dX1_ceiling_46 (by decide) ?_
            refine lv_lstore_n (lv' := [(3, .long (kM x5.toNatClampNeg)), (0, .ref (g 0)), (1, .long x1), (5, .int x5)]) hx hb dX1_ceiling_50 rfl hl (by decide) rfl (fun ls hl => ?_)
            refine lv_iinc (v := (x5 + (-1))) (lv' := [(5, .int (x5 + (-1))), (3, .long (kM x5.toNatClampNeg)), (0, .ref (g 0)), (1, .long x1)]) hx hb dX1_ceiling_51 hl (k := 3) rfl rfl (by decide) rfl (fun ls hl => ?_)
            refine lv_goto (tgt := 12) hx hb dX1_ceiling_54 (by decide) ?_
            exact ih (kM x5.toNatClampNeg) (x5 + (-1)) hw _ _ ls hP hD hS (lv_sub hl [2, 3, 1, 0] rfl)
  unfold wp_M_ceiling at hw
  refine lv_ldc2 (v := NOK) hx hb hown (hts _ (List.mem_cons_of_mem _ tcn_X1_40)) dX1_ceiling_0 ?_
  refine lv_lstore_n (lv' := [(3, .long NOK), (0, .ref (g 0)), (1, .long a1)]) hx hb dX1_ceiling_3 rfl hl (by decide) rfl (fun ls hl => ?_)
  refine lv_aload_n hx hb dX1_ceiling_4 rfl (lv_at hl 1 rfl) ?_
  refine va_get (D := D) (ci := 1) (v := .int ceM) (C := RX1) (T := TX1) (N := 10) hx hb hts (fun w h => List.mem_cons_of_mem _ (iX1 w h)) hown hK hP 0 rfl rfl 1 (by decide) hf_cells (fun _ h9 => h9) rfl dX1_ceiling_5 ?_
  refine lv_iconst (v := 1) hx hb dX1_ceiling_8 (by decide) ?_
  refine lv_isub hx hb dX1_ceiling_9 ?_
  refine lv_istore (lv' := [(5, .int (ceM - 1)), (3, .long NOK), (0, .ref (g 0)), (1, .long a1)]) hx hb dX1_ceiling_10 hl (by decide) rfl (fun ls hl => ?_)
  obtain ⟨n0, hw⟩ := hw
  exact L12 a1 n0 NOK (ceM - 1) hw _ _ ls hP hD hS (lv_sub hl [2, 3, 1, 0] rfl)
