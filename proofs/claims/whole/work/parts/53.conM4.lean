set_option maxHeartbeats 4000000 in
set_option maxRecDepth 100000 in
theorem c_M_drop (l : Launch) (D : va_G) (g : Nat → Nat) (q : Nat → ClassId) (leM : Int32) (ceM : Int32) (fM : Nat → Int32) (kM : Nat → Int64) (vM : Nat → Int64) (wiM : Int32) (moM : Int64) (waM : Int32) (wkM : Nat → Int64) (wvM : Nat → Int64) (a1 : Int64) (a3 : Int32) (post : Int32 → (Int32) → (Nat → Int32) → (Nat → Int64) → (Nat → Int64) → (Int32) → (Int64) → (Int32) → (Nat → Int64) → (Nat → Int64) → Prop) (hw : wp_M_drop leM ceM fM kM vM wiM moM waM wkM wvM a1 a3 post) (sz : Nat) : Met l yX1_drop wsX1_drop ({ frames := 4, cells := 0, slots := 0, locals := 90 }) (qP D vwCl (tM q) (wM g q leM ceM fM kM vM wiM moM waM wkM wvM) sz [.ref (g 0), .long a1, .int a3]) (va_Qi (fun r (u : (Int32) × (Nat → Int32) × (Nat → Int64) × (Nat → Int64) × (Int32) × (Int64) × (Int32) × (Nat → Int64) × (Nat → Int64)) => post r u.1 u.2.1 u.2.2.1 u.2.2.2.1 u.2.2.2.2.1 u.2.2.2.2.2.1 u.2.2.2.2.2.2.1 u.2.2.2.2.2.2.2.1 u.2.2.2.2.2.2.2.2) (qB D vwCl (tM q) (fun u : (Int32) × (Nat → Int32) × (Nat → Int64) × (Nat → Int64) × (Int32) × (Int64) × (Int32) × (Nat → Int64) × (Nat → Int64) => (wM g q leM u.1 u.2.1 u.2.2.1 u.2.2.2.1 u.2.2.2.2.1 u.2.2.2.2.2.1 u.2.2.2.2.2.2.1 u.2.2.2.2.2.2.2.1 u.2.2.2.2.2.2.2.2)) (va_A (wM g q leM ceM fM kM vM wiM moM waM wkM wvM) sz)) (va_A (wM g q leM ceM fM kM vM wiM moM waM wkM wvM) sz)) 0 0 (va_A (wM g q leM ceM fM kM vM wiM moM waM wkM wvM) sz) := by
  refine q_enter (cc := cX1_drop) (maxL := 9) (ret := (some .int)) (fun A => va_Qi (fun r (u : (Int32) × (Nat → Int32) × (Nat → Int64) × (Nat → Int64) × (Int32) × (Int64) × (Int32) × (Nat → Int64) × (Nat → Int64)) => post r u.1 u.2.1 u.2.2.1 u.2.2.2.1 u.2.2.2.2.1 u.2.2.2.2.2.1 u.2.2.2.2.2.2.1 u.2.2.2.2.2.2.2.1 u.2.2.2.2.2.2.2.2) (qB D vwCl (tM q) (fun u : (Int32) × (Nat → Int32) × (Nat → Int64) × (Nat → Int64) × (Int32) × (Int64) × (Int32) × (Nat → Int64) × (Nat → Int64) => (wM g q leM u.1 u.2.1 u.2.2.1 u.2.2.2.1 u.2.2.2.2.1 u.2.2.2.2.2.1 u.2.2.2.2.2.2.1 u.2.2.2.2.2.2.2.1 u.2.2.2.2.2.2.2.2)) A) A) (by decide +kernel) rfl (Nat.le_of_ble_eq_true rfl) ?_
  intro p e s m below meth c A ls hx hb hr hml hown hts hlocks hname hP hK hD hA hl
  replace hown : s.vm.findClass RX1 = some m.cls := hown
  replace hl : lv_has ls 9 [(0, .ref (g 0)), (1, .long a1), (3, .int a3)] := hl
  have hS : va_S A s.heap s.heap [] := va_S.rf
  have L21 : ∀ (x1 : Int64) (x3 : Int32) (n : Nat) (x4 : Int32) (x5 : Int32) (x6 : Int32) (ceM : Int32) (fM : Nat → Int32) (kM : Nat → Int64) (vM : Nat → Int64) (wiM : Int32) (moM : Int64) (waM : Int32) (wkM : Nat → Int64) (wvM : Nat → Int64), wp_M_drop_L21 leM x1 x3 post n x4 x5 x6 ceM fM kM vM wiM moM waM wkM wvM → ∀ (H : Heap) (locs : List Loc) (ls : Array Slot), va_P D vwCl (wM g q leM ceM fM kM vM wiM moM waM wkM wvM) H → va_D A (wM g q leM ceM fM kM vM wiM moM waM wkM wvM) → va_S A s.heap H locs → lv_has ls 9 [(0, .ref (g 0)), (1, .long x1), (3, .int x3), (4, .int x4), (5, .int x5), (6, .int x6)] → W p l e { frames := 4, cells := 0, slots := 0, locals := 90 } s m ([.ref (g 0), .long a1, .int a3] : List Value).toArray below meth c H locs 0 0 (MQ below (va_Qi (fun r (u : (Int32) × (Nat → Int32) × (Nat → Int64) × (Nat → Int64) × (Int32) × (Int64) × (Int32) × (Nat → Int64) × (Nat → Int64)) => post r u.1 u.2.1 u.2.2.1 u.2.2.2.1 u.2.2.2.2.1 u.2.2.2.2.2.1 u.2.2.2.2.2.2.1 u.2.2.2.2.2.2.2.1 u.2.2.2.2.2.2.2.2) (qB D vwCl (tM q) (fun u : (Int32) × (Nat → Int32) × (Nat → Int64) × (Nat → Int64) × (Int32) × (Int64) × (Int32) × (Nat → Int64) × (Nat → Int64) => (wM g q leM u.1 u.2.1 u.2.2.1 u.2.2.2.1 u.2.2.2.2.1 u.2.2.2.2.2.1 u.2.2.2.2.2.2.1 u.2.2.2.2.2.2.2.1 u.2.2.2.2.2.2.2.2)) A) A) ([.ref (g 0), .long a1, .int a3] : List Value).toArray s 0 0 A) (F0 m 21 ls []) := by
    intro x1 x3 n
    induction n with
    | zero => intro x4 x5 x6 ceM fM kM vM wiM moM waM wkM wvM hw; exact False.elim (show False from hw)
    | succ n ih =>
      intro x4 x5 x6 ceM fM kM vM wiM moM waM wkM wvM hw H locs ls hP hD hS hl
      rw [wp_M_drop_L21] at hw
      refine lv_iload hx hb dX1_drop_21 (lv_at hl 5 rfl) ?_
      refine lv_iload_n hx hb dX1_drop_23 rfl (lv_at hl 2 rfl) ?_
      refine lv_icmp_ge (tgt := 85) hx hb dX1_drop_24 (by decide) (fun c_3 => ?_) (fun c_3 => ?_)
      · replace hw := hw.1 c_3
        refine lv_iload hx hb dX1_drop_85 (lv_at hl 3 rfl) ?_
        exact q_iret (ceM, fM, kM, vM, wiM, moM, waM, wkM, wvM) hx hb hr hlocks hK dX1_drop_87 hS hP hD hw
      · replace hw := hw.2 c_3
        refine lv_iload hx hb dX1_drop_27 (lv_at hl 4 rfl) ?_
        refine lv_if_eq (tgt := 85) hx hb dX1_drop_29 (by decide) (fun c_4 => ?_) (fun c_4 => ?_)
        · replace hw := hw.1 c_4
          refine lv_iload hx hb dX1_drop_85 (lv_at hl 3 rfl) ?_
          exact q_iret (ceM, fM, kM, vM, wiM, moM, waM, wkM, wvM) hx hb hr hlocks hK dX1_drop_87 hS hP hD hw
        · replace hw := hw.2 c_4
          refine lv_aload_n hx hb dX1_drop_32 rfl (lv_at hl 0 rfl) ?_
          refine lv_lload_n hx hb dX1_drop_33 rfl (lv_at hl 1 rfl) ?_
          refine q_callVl (As := [.long x1]) (rest := []) (wr := []) [0, 1, 2, 3, 4, 5] [] ⟨hx, hb, hml, hown, hts⟩ (c_M_ceiling l D g q leM ceM fM kM vM wiM moM waM wkM wvM x1 _ hw _) (cwV 1 hts gX1_drop_X1_ceiling rfl rfl rfl (by decide +kernel) ⟨Nat.le_of_ble_eq_true rfl, Nat.le_of_ble_eq_true rfl⟩) (va_recv hK hP (ci := 1) (q0 := 0) rfl rfl) hK hP hD hS hA rfl rfl rfl (by decide) (by decide) (by decide) rfl hl.1 rfl (Nat.le_of_ble_eq_true rfl) dX1_drop_34 ⟨Nat.zero_le _, Nat.zero_le _⟩ (fun r_5 u H locs hw hP hD hS => ?_)
          try dsimp only at hw
          replace hP : va_P D vwCl (wM g q leM ceM fM kM vM wiM moM waM wkM wvM) H := hP
          replace hD : va_D A (wM g q leM ceM fM kM vM wiM moM waM wkM wvM) := hD
          refine lv_lstore (lv' := [(7, .long r_5), (0, .ref (g 0)), (1, .long x1), (3, .int x3), (4, .int x4), (5, .int x5), (6, .int x6)]) hx hb dX1_drop_37 hl (by decide) rfl (fun ls hl => ?_)
          refine lv_lload hx hb dX1_drop_39 (lv_at hl 0 rfl) ?_
          refine lv_ldc2 (v := NOK) hx hb hown (hts _ (List.mem_cons_of_mem _ tcn_X1_40)) dX1_drop_41 ?_
          refine q_lc_eq (tgt := 61) hx hb dX1_drop_44 dX1_drop_45 (by decide) (fun c_6 => ?_) (fun c_6 => ?_)
          · replace hw := hw.1 c_6
            refine lv_iconst (v := 0) hx hb dX1_drop_61 (by decide) ?_
            refine lv_istore (lv' := [(5, .int 0), (7, .long r_5), (0, .ref (g 0)), (1, .long x1), (3, .int x3), (4, .int x4), (6, .int x6)]) hx hb dX1_drop_62 hl (by decide) rfl (fun ls hl => ?_)
            refine lv_iload hx hb dX1_drop_64 (lv_at hl 5 rfl) ?_
            refine lv_iload hx hb dX1_drop_66 (lv_at hl 0 rfl) ?_
            refine lv_if_eq (tgt := 75) hx hb dX1_drop_68 (by decide) (fun c_7 => ?_) (fun c_7 => ?_)
            · refine lv_iconst (v := 0) hx hb dX1_drop_75 (by decide) ?_
              refine lv_iadd hx hb dX1_drop_76 ?_
              refine lv_istore (lv' := [(4, .int (x4 + 0)), (5, .int 0), (7, .long r_5), (0, .ref (g 0)), (1, .long x1), (3, .int x3), (6, .int x6)]) hx hb dX1_drop_77 hl (by decide) rfl (fun ls hl => ?_)
              refine lv_iinc (v := (x6 + 1)) (lv' := [(6, .int (x6 + 1)), (4, .int (x4 + 0)), (5, .int 0), (7, .long r_5), (0, .ref (g 0)), (1, .long x1), (3, .int x3)]) hx hb dX1_drop_79 hl (k := 6) rfl rfl (by decide) rfl (fun ls hl => ?_)
              refine lv_goto (tgt := 21) hx hb dX1_drop_82 (by decide) ?_
              exact ih (x4 + 0) 0 (x6 + 1) ceM fM kM vM wiM moM waM wkM wvM hw _ _ ls hP hD hS (lv_sub hl [4, 5, 6, 1, 2, 0] rfl)
            · exact absurd (by decide) c_7
          · replace hw := hw.2 c_6
            refine lv_aload_n hx hb dX1_drop_48 rfl (lv_at hl 1 rfl) ?_
            refine lv_lload hx hb dX1_drop_49 (lv_at hl 0 rfl) ?_
            refine q_callVi (As := [.long r_5]) (rest := []) (wr := []) [0, 1, 2, 3, 4, 5] [] ⟨hx, hb, hml, hown, hts⟩ (c_M_remove l D g q leM ceM fM kM vM wiM moM waM wkM wvM r_5 _ hw _) (cwV 1 hts gX1_drop_X1_remove rfl rfl rfl (by decide +kernel) ⟨Nat.le_of_ble_eq_true rfl, Nat.le_of_ble_eq_true rfl⟩) (va_recv hK hP (ci := 1) (q0 := 0) rfl rfl) hK hP hD hS hA rfl rfl rfl (by decide) (by decide) (by decide) rfl hl.1 rfl (Nat.le_of_ble_eq_true rfl) dX1_drop_51 ⟨Nat.zero_le _, Nat.zero_le _⟩ (fun r_8 u H locs hw hP hD hS => ?_)
            obtain ⟨ceM_9, fM_10, kM_11, vM_12, wiM_13, moM_14, waM_15, wkM_16, wvM_17⟩ := u
            try dsimp only at hw
            replace hP : va_P D vwCl (wM g q leM ceM_9 fM_10 kM_11 vM_12 wiM_13 moM_14 waM_15 wkM_16 wvM_17) H := hP
            replace hD : va_D A (wM g q leM ceM_9 fM_10 kM_11 vM_12 wiM_13 moM_14 waM_15 wkM_16 wvM_17) := hD
            refine lv_if_eq (tgt := 61) hx hb dX1_drop_54 (by decide) (fun c_18 => ?_) (fun c_18 => ?_)
            · replace hw := hw.1 c_18
              refine lv_iconst (v := 0) hx hb dX1_drop_61 (by decide) ?_
              refine lv_istore (lv' := [(5, .int 0), (7, .long r_5), (0, .ref (g 0)), (1, .long x1), (3, .int x3), (4, .int x4), (6, .int x6)]) hx hb dX1_drop_62 hl (by decide) rfl (fun ls hl => ?_)
              refine lv_iload hx hb dX1_drop_64 (lv_at hl 5 rfl) ?_
              refine lv_iload hx hb dX1_drop_66 (lv_at hl 0 rfl) ?_
              refine lv_if_eq (tgt := 75) hx hb dX1_drop_68 (by decide) (fun c_19 => ?_) (fun c_19 => ?_)
              · refine lv_iconst (v := 0) hx hb dX1_drop_75 (by decide) ?_
                refine lv_iadd hx hb dX1_drop_76 ?_
                refine lv_istore (lv' := [(4, .int (x4 + 0)), (5, .int 0), (7, .long r_5), (0, .ref (g 0)), (1, .long x1), (3, .int x3), (6, .int x6)]) hx hb dX1_drop_77 hl (by decide) rfl (fun ls hl => ?_)
                refine lv_iinc (v := (x6 + 1)) (lv' := [(6, .int (x6 + 1)), (4, .int (x4 + 0)), (5, .int 0), (7, .long r_5), (0, .ref (g 0)), (1, .long x1), (3, .int x3)]) hx hb dX1_drop_79 hl (k := 6) rfl rfl (by decide) rfl (fun ls hl => ?_)
                refine lv_goto (tgt := 21) hx hb dX1_drop_82 (by decide) ?_
                exact ih (x4 + 0) 0 (x6 + 1) ceM_9 fM_10 kM_11 vM_12 wiM_13 moM_14 waM_15 wkM_16 wvM_17 hw _ _ ls hP hD hS (lv_sub hl [4, 5, 6, 1, 2, 0] rfl)
              · exact absurd (by decide) c_19
            · replace hw := hw.2 c_18
              refine lv_iconst (v := 1) hx hb dX1_drop_57 (by decide) ?_
              refine lv_goto (tgt := 62) hx hb dX1_drop_58 (by decide) ?_
              refine lv_istore (lv' := [(5, .int 1), (7, .long r_5), (0, .ref (g 0)), (1, .long x1), (3, .int x3), (4, .int x4), (6, .int x6)]) hx hb dX1_drop_62 hl (by decide) rfl (fun ls hl => ?_)
              refine lv_iload hx hb dX1_drop_64 (lv_at hl 5 rfl) ?_
              refine lv_iload hx hb dX1_drop_66 (lv_at hl 0 rfl) ?_
              refine lv_if_eq (tgt := 75) hx hb dX1_drop_68 (by decide) (fun c_20 => ?_) (fun c_20 => ?_)
              · exact absurd c_20 (by decide)
              · refine lv_iconst (v := 1) hx hb dX1_drop_71 (by decide) ?_
                refine lv_goto (tgt := 76) hx hb dX1_drop_72 (by decide) ?_
                refine lv_iadd hx hb dX1_drop_76 ?_
                refine lv_istore (lv' := [(4, .int (x4 + 1)), (5, .int 1), (7, .long r_5), (0, .ref (g 0)), (1, .long x1), (3, .int x3), (6, .int x6)]) hx hb dX1_drop_77 hl (by decide) rfl (fun ls hl => ?_)
                refine lv_iinc (v := (x6 + 1)) (lv' := [(6, .int (x6 + 1)), (4, .int (x4 + 1)), (5, .int 1), (7, .long r_5), (0, .ref (g 0)), (1, .long x1), (3, .int x3)]) hx hb dX1_drop_79 hl (k := 6) rfl rfl (by decide) rfl (fun ls hl => ?_)
                refine lv_goto (tgt := 21) hx hb dX1_drop_82 (by decide) ?_
                exact ih (x4 + 1) 1 (x6 + 1) ceM_9 fM_10 kM_11 vM_12 wiM_13 moM_14 waM_15 wkM_16 wvM_17 hw _ _ ls hP hD hS (lv_sub hl [4, 5, 6, 1, 2, 0] rfl)
  unfold wp_M_drop at hw
  refine lv_iload_n hx hb dX1_drop_0 rfl (lv_at hl 2 rfl) ?_
  refine lv_if_lt (tgt := 10) hx hb dX1_drop_1 (by decide) (fun c_1 => ?_) (fun c_1 => ?_)
  · replace hw := hw.1 c_1
    refine lv_iconst (v := (-1)) hx hb dX1_drop_10 (by decide) ?_
    exact q_iret (ceM, fM, kM, vM, wiM, moM, waM, wkM, wvM) hx hb hr hlocks hK dX1_drop_11 hS hP hD hw
  · replace hw := hw.2 c_1
    refine lv_iload_n hx hb dX1_drop_4 rfl (lv_at hl 2 rfl) ?_
    refine lv_bipush (v := 64) hx hb dX1_drop_5 (by decide) ?_
    refine lv_icmp_le (tgt := 12) hx hb dX1_drop_7 (by decide) (fun c_2 => ?_) (fun c_2 => ?_)
    · replace hw := hw.1 c_2
      refine lv_iconst (v := 0) hx hb dX1_drop_12 (by decide) ?_
      refine lv_istore (lv' := [(4, .int 0), (0, .ref (g 0)), (1, .long a1), (3, .int a3)]) hx hb dX1_drop_13 hl (by decide) rfl (fun ls hl => ?_)
      refine lv_iconst (v := 1) hx hb dX1_drop_15 (by decide) ?_
      refine lv_istore (lv' := [(5, .int 1), (4, .int 0), (0, .ref (g 0)), (1, .long a1), (3, .int a3)]) hx hb dX1_drop_16 hl (by decide) rfl (fun ls hl => ?_)
      refine lv_iconst (v := 0) hx hb dX1_drop_18 (by decide) ?_
      refine lv_istore (lv' := [(6, .int 0), (5, .int 1), (4, .int 0), (0, .ref (g 0)), (1, .long a1), (3, .int a3)]) hx hb dX1_drop_19 hl (by decide) rfl (fun ls hl => ?_)
      obtain ⟨n0, hw⟩ := hw
      exact L21 a1 a3 n0 0 1 0 ceM fM kM vM wiM moM waM wkM wvM hw _ _ ls hP hD hS (lv_sub hl [3, 4, 5, 2, 1, 0] rfl)
    · replace hw := hw.2 c_2
      refine lv_iconst (v := (-1)) hx hb dX1_drop_10 (by decide) ?_
      exact q_iret (ceM, fM, kM, vM, wiM, moM, waM, wkM, wvM) hx hb hr hlocks hK dX1_drop_11 hS hP hD hw
set_option maxHeartbeats 4000000 in
set_option maxRecDepth 100000 in
theorem c_M_has (l : Launch) (D : va_G) (g : Nat → Nat) (q : Nat → ClassId) (leM : Int32) (ceM : Int32) (fM : Nat → Int32) (kM : Nat → Int64) (vM : Nat → Int64) (wiM : Int32) (moM : Int64) (waM : Int32) (wkM : Nat → Int64) (wvM : Nat → Int64) (a1 : Int64) (post : Int32 → Prop) (hw : wp_M_has ceM fM kM a1 post) (sz : Nat) : Met l yX1_has wsX1_has ({ frames := 1, cells := 0, slots := 0, locals := 24 }) (qP D vwCl (tM q) (wM g q leM ceM fM kM vM wiM moM waM wkM wvM) sz [.ref (g 0), .long a1]) (va_Qi (fun r (_ : Unit) => post r) (qB D vwCl (tM q) (fun _ : Unit => (wM g q leM ceM fM kM vM wiM moM waM wkM wvM)) (va_A (wM g q leM ceM fM kM vM wiM moM waM wkM wvM) sz)) (va_A (wM g q leM ceM fM kM vM wiM moM waM wkM wvM) sz)) 0 0 (va_A (wM g q leM ceM fM kM vM wiM moM waM wkM wvM) sz) := by
  refine q_enter (cc := cX1_has) (maxL := 3) (ret := (some .boolean)) (fun A => va_Qi (fun r (_ : Unit) => post r) (qB D vwCl (tM q) (fun _ : Unit => (wM g q leM ceM fM kM vM wiM moM waM wkM wvM)) A) A) (by decide +kernel) rfl (Nat.le_of_ble_eq_true rfl) ?_
  intro p e s m below meth c A ls hx hb hr hml hown hts hlocks hname hP hK hD hA hl
  replace hown : s.vm.findClass RX1 = some m.cls := hown
  replace hl : lv_has ls 3 [(0, .ref (g 0)), (1, .long a1)] := hl
  have hS : va_S A s.heap s.heap [] := va_S.rf
  unfold wp_M_has at hw
  refine lv_aload_n hx hb dX1_has_0 rfl (lv_at hl 0 rfl) ?_
  refine lv_lload_n hx hb dX1_has_1 rfl (lv_at hl 1 rfl) ?_
  refine q_callVi (As := [.long a1]) (rest := []) (wr := []) [0, 1, 2, 3, 4, 5] [] ⟨hx, hb, hml, hown, hts⟩ (c_M_cellOf l D g q leM ceM fM kM vM wiM moM waM wkM wvM a1 _ hw _) (cwV 1 hts gX1_has_X1_cellOf rfl rfl rfl (by decide +kernel) ⟨Nat.le_of_ble_eq_true rfl, Nat.le_of_ble_eq_true rfl⟩) (va_recv hK hP (ci := 1) (q0 := 0) rfl rfl) hK hP hD hS hA rfl rfl rfl (by decide) (by decide) (by decide) rfl hl.1 rfl (Nat.le_of_ble_eq_true rfl) dX1_has_2 ⟨Nat.zero_le _, Nat.zero_le _⟩ (fun r_1 u H locs hw hP hD hS => ?_)
  try dsimp only at hw
  replace hP : va_P D vwCl (wM g q leM ceM fM kM vM wiM moM waM wkM wvM) H := hP
  replace hD : va_D A (wM g q leM ceM fM kM vM wiM moM waM wkM wvM) := hD
  refine lv_if_lt (tgt := 12) hx hb dX1_has_5 (by decide) (fun c_2 => ?_) (fun c_2 => ?_)
  · replace hw := hw.1 c_2
    refine lv_iconst (v := 0) hx hb dX1_has_12 (by decide) ?_
    exact q_zret () hx hb hr (by decide) hlocks hK dX1_has_13 hS hP hD hw
  · replace hw := hw.2 c_2
    refine lv_iconst (v := 1) hx hb dX1_has_8 (by decide) ?_
    refine lv_goto (tgt := 13) hx hb dX1_has_9 (by decide) ?_
    exact q_zret () hx hb hr (by decide) hlocks hK dX1_has_13 hS hP hD hw
set_option maxHeartbeats 4000000 in
set_option maxRecDepth 100000 in
theorem c_M_get (l : Launch) (D : va_G) (g : Nat → Nat) (q : Nat → ClassId) (leM : Int32) (ceM : Int32) (fM : Nat → Int32) (kM : Nat → Int64) (vM : Nat → Int64) (wiM : Int32) (moM : Int64) (waM : Int32) (wkM : Nat → Int64) (wvM : Nat → Int64) (a1 : Int64) (post : Int64 → Prop) (hw : wp_M_get ceM fM kM vM a1 post) (sz : Nat) : Met l yX1_get wsX1_get ({ frames := 1, cells := 0, slots := 0, locals := 24 }) (qP D vwCl (tM q) (wM g q leM ceM fM kM vM wiM moM waM wkM wvM) sz [.ref (g 0), .long a1]) (va_Ql (fun r (_ : Unit) => post r) (qB D vwCl (tM q) (fun _ : Unit => (wM g q leM ceM fM kM vM wiM moM waM wkM wvM)) (va_A (wM g q leM ceM fM kM vM wiM moM waM wkM wvM) sz)) (va_A (wM g q leM ceM fM kM vM wiM moM waM wkM wvM) sz)) 0 0 (va_A (wM g q leM ceM fM kM vM wiM moM waM wkM wvM) sz) := by
  refine q_enter (cc := cX1_get) (maxL := 4) (ret := (some .long)) (fun A => va_Ql (fun r (_ : Unit) => post r) (qB D vwCl (tM q) (fun _ : Unit => (wM g q leM ceM fM kM vM wiM moM waM wkM wvM)) A) A) (by decide +kernel) rfl (Nat.le_of_ble_eq_true rfl) ?_
  intro p e s m below meth c A ls hx hb hr hml hown hts hlocks hname hP hK hD hA hl
  replace hown : s.vm.findClass RX1 = some m.cls := hown
  replace hl : lv_has ls 4 [(0, .ref (g 0)), (1, .long a1)] := hl
  have hS : va_S A s.heap s.heap [] := va_S.rf
  have hf_values := hts _ (List.mem_cons_of_mem _ tfl_X1_17)
  unfold wp_M_get at hw
  refine lv_aload_n hx hb dX1_get_0 rfl (lv_at hl 0 rfl) ?_
  refine lv_lload_n hx hb dX1_get_1 rfl (lv_at hl 1 rfl) ?_
  refine q_callVi (As := [.long a1]) (rest := []) (wr := []) [0, 1, 2, 3, 4, 5] [] ⟨hx, hb, hml, hown, hts⟩ (c_M_cellOf l D g q leM ceM fM kM vM wiM moM waM wkM wvM a1 _ hw _) (cwV 1 hts gX1_get_X1_cellOf rfl rfl rfl (by decide +kernel) ⟨Nat.le_of_ble_eq_true rfl, Nat.le_of_ble_eq_true rfl⟩) (va_recv hK hP (ci := 1) (q0 := 0) rfl rfl) hK hP hD hS hA rfl rfl rfl (by decide) (by decide) (by decide) rfl hl.1 rfl (Nat.le_of_ble_eq_true rfl) dX1_get_2 ⟨Nat.zero_le _, Nat.zero_le _⟩ (fun r_1 u H locs hw hP hD hS => ?_)
  try dsimp only at hw
  replace hP : va_P D vwCl (wM g q leM ceM fM kM vM wiM moM waM wkM wvM) H := hP
  replace hD : va_D A (wM g q leM ceM fM kM vM wiM moM waM wkM wvM) := hD
  refine lv_istore_n (lv' := [(3, .int r_1), (0, .ref (g 0)), (1, .long a1)]) hx hb dX1_get_5 rfl hl (by decide) rfl (fun ls hl => ?_)
  refine lv_iload_n hx hb dX1_get_6 rfl (lv_at hl 0 rfl) ?_
  refine lv_if_ge (tgt := 14) hx hb dX1_get_7 (by decide) (fun c_2 => ?_) (fun c_2 => ?_)
  · replace hw := hw.1 c_2
    refine lv_aload_n hx hb dX1_get_14 rfl (lv_at hl 1 rfl) ?_
    refine va_get (D := D) (ci := 1) (v := .ref (g 3)) (C := RX1) (T := TX1) (N := 10) hx hb hts (fun w h => List.mem_cons_of_mem _ (iX1 w h)) hown hK hP 0 rfl rfl 4 (by decide) hf_values (fun _ h9 => h9) rfl dX1_get_15 ?_
    refine lv_iload_n hx hb dX1_get_18 rfl (lv_at hl 0 rfl) ?_
    obtain ⟨hi_3, hw⟩ := hw
    refine va_lald hx hb hK hP 3 2 rfl rfl hi_3 dX1_get_19 ?_
    exact q_lret () hx hb hr hlocks hK dX1_get_20 hS hP hD hw
  · replace hw := hw.2 c_2
    refine lv_lconst (v := 0) hx hb dX1_get_10 (by decide) ?_
    refine lv_goto (tgt := 20) hx hb dX1_get_11 (by decide) ?_
    exact q_lret () hx hb hr hlocks hK dX1_get_20 hS hP hD hw
set_option maxHeartbeats 4000000 in
set_option maxRecDepth 100000 in
theorem c_M_floor (l : Launch) (D : va_G) (g : Nat → Nat) (q : Nat → ClassId) (leM : Int32) (ceM : Int32) (fM : Nat → Int32) (kM : Nat → Int64) (vM : Nat → Int64) (wiM : Int32) (moM : Int64) (waM : Int32) (wkM : Nat → Int64) (wvM : Nat → Int64) (a1 : Int64) (post : Int64 → Prop) (hw : wp_M_floor ceM fM kM a1 post) (sz : Nat) : Met l yX1_floor wsX1_floor ({ frames := 0, cells := 0, slots := 0, locals := 0 }) (qP D vwCl (tM q) (wM g q leM ceM fM kM vM wiM moM waM wkM wvM) sz [.ref (g 0), .long a1]) (va_Ql (fun r (_ : Unit) => post r) (qB D vwCl (tM q) (fun _ : Unit => (wM g q leM ceM fM kM vM wiM moM waM wkM wvM)) (va_A (wM g q leM ceM fM kM vM wiM moM waM wkM wvM) sz)) (va_A (wM g q leM ceM fM kM vM wiM moM waM wkM wvM) sz)) 0 0 (va_A (wM g q leM ceM fM kM vM wiM moM waM wkM wvM) sz) := by
  refine q_enter (cc := cX1_floor) (maxL := 6) (ret := (some .long)) (fun A => va_Ql (fun r (_ : Unit) => post r) (qB D vwCl (tM q) (fun _ : Unit => (wM g q leM ceM fM kM vM wiM moM waM wkM wvM)) A) A) (by decide +kernel) rfl (Nat.le_of_ble_eq_true rfl) ?_
  intro p e s m below meth c A ls hx hb hr hml hown hts hlocks hname hP hK hD hA hl
  replace hown : s.vm.findClass RX1 = some m.cls := hown
  replace hl : lv_has ls 6 [(0, .ref (g 0)), (1, .long a1)] := hl
  have hS : va_S A s.heap s.heap [] := va_S.rf
  have hf_keys := hts _ (List.mem_cons_of_mem _ tfl_X1_13)
  have hf_cells := hts _ (List.mem_cons_of_mem _ tfl_X1_33)
  have hf_full := hts _ (List.mem_cons_of_mem _ tfl_X1_7)
  have L7 : ∀ (x1 : Int64) (n : Nat) (x3 : Int64) (x5 : Int32), wp_M_floor_L7 ceM fM kM x1 post n x3 x5 → ∀ (H : Heap) (locs : List Loc) (ls : Array Slot), va_P D vwCl (wM g q leM ceM fM kM vM wiM moM waM wkM wvM) H → va_D A (wM g q leM ceM fM kM vM wiM moM waM wkM wvM) → va_S A s.heap H locs → lv_has ls 6 [(0, .ref (g 0)), (1, .long x1), (3, .long x3), (5, .int x5)] → W p l e { frames := 0, cells := 0, slots := 0, locals := 0 } s m ([.ref (g 0), .long a1] : List Value).toArray below meth c H locs 0 0 (MQ below (va_Ql (fun r (_ : Unit) => post r) (qB D vwCl (tM q) (fun _ : Unit => (wM g q leM ceM fM kM vM wiM moM waM wkM wvM)) A) A) ([.ref (g 0), .long a1] : List Value).toArray s 0 0 A) (F0 m 7 ls []) := by
    intro x1 n
    induction n with
    | zero => intro x3 x5 hw; exact False.elim (show False from hw)
    | succ n ih =>
      intro x3 x5 hw H locs ls hP hD hS hl
      rw [wp_M_floor_L7] at hw
      refine lv_iload hx hb dX1_floor_7 (lv_at hl 3 rfl) ?_
      refine lv_aload_n hx hb dX1_floor_9 rfl (lv_at hl 0 rfl) ?_
      refine va_get (D := D) (ci := 1) (v := .int ceM) (C := RX1) (T := TX1) (N := 10) hx hb hts (fun w h => List.mem_cons_of_mem _ (iX1 w h)) hown hK hP 0 rfl rfl 1 (by decide) hf_cells (fun _ h9 => h9) rfl dX1_floor_10 ?_
      refine lv_icmp_ge (tgt := 56) hx hb dX1_floor_13 (by decide) (fun c_1 => ?_) (fun c_1 => ?_)
      · replace hw := hw.1 c_1
        refine lv_lload_n hx hb dX1_floor_56 rfl (lv_at hl 2 rfl) ?_
        exact q_lret () hx hb hr hlocks hK dX1_floor_57 hS hP hD hw
      · replace hw := hw.2 c_1
        refine lv_aload_n hx hb dX1_floor_16 rfl (lv_at hl 0 rfl) ?_
        refine va_get (D := D) (ci := 1) (v := .ref (g 1)) (C := RX1) (T := TX1) (N := 10) hx hb hts (fun w h => List.mem_cons_of_mem _ (iX1 w h)) hown hK hP 0 rfl rfl 2 (by decide) hf_full (fun _ h9 => h9) rfl dX1_floor_17 ?_
        refine lv_iload hx hb dX1_floor_20 (lv_at hl 3 rfl) ?_
        obtain ⟨hi_2, hw⟩ := hw
        refine va_zald hx hb hK hP 1 0 rfl rfl hi_2 dX1_floor_22 ?_
        refine lv_if_eq (tgt := 48) hx hb dX1_floor_23 (by decide) (fun c_3 => ?_) (fun c_3 => ?_)
        · replace hw := hw.1 c_3
          refine lv_lload_n hx hb dX1_floor_48 rfl (lv_at hl 2 rfl) ?_
          refine lv_lstore_n (lv' := [(3, .long x3), (0, .ref (g 0)), (1, .long x1), (5, .int x5)]) hx hb dX1_floor_49 rfl hl (by decide) rfl (fun ls hl => ?_)
          refine lv_iinc (v := (x5 + 1)) (lv' := [(5, .int (x5 + 1)), (3, .long x3), (0, .ref (g 0)), (1, .long x1)]) hx hb dX1_floor_50 hl (k := 3) rfl rfl (by decide) rfl (fun ls hl => ?_)
          refine lv_goto (tgt := 7) hx hb dX1_floor_53 (by decide) ?_
          exact ih x3 (x5 + 1) hw _ _ ls hP hD hS (lv_sub hl [2, 3, 1, 0] rfl)
        · replace hw := hw.2 c_3
          refine lv_aload_n hx hb dX1_floor_26 rfl (lv_at hl 0 rfl) ?_
          refine va_get (D := D) (ci := 1) (v := .ref (g 2)) (C := RX1) (T := TX1) (N := 10) hx hb hts (fun w h => List.mem_cons_of_mem _ (iX1 w h)) hown hK hP 0 rfl rfl 3 (by decide) hf_keys (fun _ h9 => h9) rfl dX1_floor_27 ?_
          refine lv_iload hx hb dX1_floor_30 (lv_at hl 3 rfl) ?_
          refine va_lald hx hb hK hP 2 1 rfl rfl hi_2 dX1_floor_32 ?_
          refine lv_lload_n hx hb dX1_floor_33 rfl (lv_at hl 1 rfl) ?_
          refine q_lc_gt (tgt := 48) hx hb dX1_floor_34 dX1_floor_35 (by decide) (fun c_4 => ?_) (fun c_4 => ?_)
          · replace hw := hw.1 c_4
            refine lv_lload_n hx hb dX1_floor_48 rfl (lv_at hl 2 rfl) ?_
            refine lv_lstore_n (lv' := [(3, .long x3), (0, .ref (g 0)), (1, .long x1), (5, .int x5)]) hx hb dX1_floor_49 rfl hl (by decide) rfl (fun ls hl => ?_)
            refine lv_iinc (v := (x5 + 1)) (lv' := [(5, .int (x5 + 1)), (3, .long x3), (0, .ref (g 0)), (1, .long x1)]) hx hb dX1_floor_50 hl (k := 3) rfl rfl (by decide) rfl (fun ls hl => ?_)
            refine lv_goto (tgt := 7) hx hb dX1_floor_53 (by decide) ?_
            exact ih x3 (x5 + 1) hw _ _ ls hP hD hS (lv_sub hl [2, 3, 1, 0] rfl)
          · replace hw := hw.2 c_4
            refine lv_aload_n hx hb dX1_floor_38 rfl (lv_at hl 0 rfl) ?_
            refine va_get (D := D) (ci := 1) (v := .ref (g 2)) (C := RX1) (T := TX1) (N := 10) hx hb hts (fun w h => List.mem_cons_of_mem _ (iX1 w h)) hown hK hP 0 rfl rfl 3 (by decide) hf_keys (fun _ h9 => h9) rfl dX1_floor_39 ?_
            refine lv_iload hx hb dX1_floor_42 (lv_at hl 3 rfl) ?_
            refine va_lald hx hb hK hP 2 1 rfl rfl hi_2 dX1_floor_44 ?_
            refine lv_goto (tgt := 49) hx hb dX1_floor_45 (by decide) ?_
            refine lv_lstore_n (lv' := [(3, .long (kM x5.toNatClampNeg)), (0, .ref (g 0)), (1, .long x1), (5, .int x5)]) hx hb dX1_floor_49 rfl hl (by decide) rfl (fun ls hl => ?_)
            refine lv_iinc (v := (x5 + 1)) (lv' := [(5, .int (x5 + 1)), (3, .long (kM x5.toNatClampNeg)), (0, .ref (g 0)), (1, .long x1)]) hx hb dX1_floor_50 hl (k := 3) rfl rfl (by decide) rfl (fun ls hl => ?_)
            refine lv_goto (tgt := 7) hx hb dX1_floor_53 (by decide) ?_
            exact ih (kM x5.toNatClampNeg) (x5 + 1) hw _ _ ls hP hD hS (lv_sub hl [2, 3, 1, 0] rfl)
  unfold wp_M_floor at hw
  refine lv_ldc2 (v := NOK) hx hb hown (hts _ (List.mem_cons_of_mem _ tcn_X1_40)) dX1_floor_0 ?_
  refine lv_lstore_n (lv' := [(3, .long NOK), (0, .ref (g 0)), (1, .long a1)]) hx hb dX1_floor_3 rfl hl (by decide) rfl (fun ls hl => ?_)
  refine lv_iconst (v := 0) hx hb dX1_floor_4 (by decide) ?_
  refine lv_istore (lv' := [(5, .int 0), (3, .long NOK), (0, .ref (g 0)), (1, .long a1)]) hx hb dX1_floor_5 hl (by decide) rfl (fun ls hl => ?_)
  obtain ⟨n0, hw⟩ := hw
  exact L7 a1 n0 NOK 0 hw _ _ ls hP hD hS (lv_sub hl [2, 3, 1, 0] rfl)
set_option maxHeartbeats 4000000 in
set_option maxRecDepth 100000 in
theorem c_M_select (l : Launch) (D : va_G) (g : Nat → Nat) (q : Nat → ClassId) (leM : Int32) (ceM : Int32) (fM : Nat → Int32) (kM : Nat → Int64) (vM : Nat → Int64) (wiM : Int32) (moM : Int64) (waM : Int32) (wkM : Nat → Int64) (wvM : Nat → Int64) (a1 : Int32) (post : Int64 → Prop) (hw : wp_M_select ceM fM kM a1 post) (sz : Nat) : Met l yX1_select wsX1_select ({ frames := 0, cells := 0, slots := 0, locals := 0 }) (qP D vwCl (tM q) (wM g q leM ceM fM kM vM wiM moM waM wkM wvM) sz [.ref (g 0), .int a1]) (va_Ql (fun r (_ : Unit) => post r) (qB D vwCl (tM q) (fun _ : Unit => (wM g q leM ceM fM kM vM wiM moM waM wkM wvM)) (va_A (wM g q leM ceM fM kM vM wiM moM waM wkM wvM) sz)) (va_A (wM g q leM ceM fM kM vM wiM moM waM wkM wvM) sz)) 0 0 (va_A (wM g q leM ceM fM kM vM wiM moM waM wkM wvM) sz) := by
  refine q_enter (cc := cX1_select) (maxL := 6) (ret := (some .long)) (fun A => va_Ql (fun r (_ : Unit) => post r) (qB D vwCl (tM q) (fun _ : Unit => (wM g q leM ceM fM kM vM wiM moM waM wkM wvM)) A) A) (by decide +kernel) rfl (Nat.le_of_ble_eq_true rfl) ?_
  intro p e s m below meth c A ls hx hb hr hml hown hts hlocks hname hP hK hD hA hl
  replace hown : s.vm.findClass RX1 = some m.cls := hown
  replace hl : lv_has ls 6 [(0, .ref (g 0)), (1, .int a1)] := hl
  have hS : va_S A s.heap s.heap [] := va_S.rf
  have hf_keys := hts _ (List.mem_cons_of_mem _ tfl_X1_13)
  have hf_cells := hts _ (List.mem_cons_of_mem _ tfl_X1_33)
  have hf_full := hts _ (List.mem_cons_of_mem _ tfl_X1_7)
  have L9 : ∀ (x1 : Int32) (n : Nat) (x2 : Int32) (x3 : Int64) (x5 : Int32), wp_M_select_L9 ceM fM kM x1 post n x2 x3 x5 → ∀ (H : Heap) (locs : List Loc) (ls : Array Slot), va_P D vwCl (wM g q leM ceM fM kM vM wiM moM waM wkM wvM) H → va_D A (wM g q leM ceM fM kM vM wiM moM waM wkM wvM) → va_S A s.heap H locs → lv_has ls 6 [(0, .ref (g 0)), (1, .int x1), (2, .int x2), (3, .long x3), (5, .int x5)] → W p l e { frames := 0, cells := 0, slots := 0, locals := 0 } s m ([.ref (g 0), .int a1] : List Value).toArray below meth c H locs 0 0 (MQ below (va_Ql (fun r (_ : Unit) => post r) (qB D vwCl (tM q) (fun _ : Unit => (wM g q leM ceM fM kM vM wiM moM waM wkM wvM)) A) A) ([.ref (g 0), .int a1] : List Value).toArray s 0 0 A) (F0 m 9 ls []) := by
    intro x1 n
    induction n with
    | zero => intro x2 x3 x5 hw; exact False.elim (show False from hw)
    | succ n ih =>
      intro x2 x3 x5 hw H locs ls hP hD hS hl
      rw [wp_M_select_L9] at hw
      refine lv_iload hx hb dX1_select_9 (lv_at hl 4 rfl) ?_
      refine lv_aload_n hx hb dX1_select_11 rfl (lv_at hl 0 rfl) ?_
      refine va_get (D := D) (ci := 1) (v := .int ceM) (C := RX1) (T := TX1) (N := 10) hx hb hts (fun w h => List.mem_cons_of_mem _ (iX1 w h)) hown hK hP 0 rfl rfl 1 (by decide) hf_cells (fun _ h9 => h9) rfl dX1_select_12 ?_
      refine lv_icmp_ge (tgt := 69) hx hb dX1_select_15 (by decide) (fun c_1 => ?_) (fun c_1 => ?_)
      · replace hw := hw.1 c_1
        refine lv_lload_n hx hb dX1_select_69 rfl (lv_at hl 3 rfl) ?_
        exact q_lret () hx hb hr hlocks hK dX1_select_70 hS hP hD hw
      · replace hw := hw.2 c_1
        refine lv_aload_n hx hb dX1_select_18 rfl (lv_at hl 0 rfl) ?_
        refine va_get (D := D) (ci := 1) (v := .ref (g 1)) (C := RX1) (T := TX1) (N := 10) hx hb hts (fun w h => List.mem_cons_of_mem _ (iX1 w h)) hown hK hP 0 rfl rfl 2 (by decide) hf_full (fun _ h9 => h9) rfl dX1_select_19 ?_
        refine lv_iload hx hb dX1_select_22 (lv_at hl 4 rfl) ?_
        obtain ⟨hi_2, hw⟩ := hw
        refine va_zald hx hb hK hP 1 0 rfl rfl hi_2 dX1_select_24 ?_
        refine lv_if_eq (tgt := 43) hx hb dX1_select_25 (by decide) (fun c_3 => ?_) (fun c_3 => ?_)
        · replace hw := hw.1 c_3
          refine lv_lload_n hx hb dX1_select_43 rfl (lv_at hl 3 rfl) ?_
          refine lv_lstore_n (lv' := [(3, .long x3), (0, .ref (g 0)), (1, .int x1), (2, .int x2), (5, .int x5)]) hx hb dX1_select_44 rfl hl (by decide) rfl (fun ls hl => ?_)
          refine lv_iload_n hx hb dX1_select_45 rfl (lv_at hl 3 rfl) ?_
          refine lv_aload_n hx hb dX1_select_46 rfl (lv_at hl 1 rfl) ?_
          refine va_get (D := D) (ci := 1) (v := .ref (g 1)) (C := RX1) (T := TX1) (N := 10) hx hb hts (fun w h => List.mem_cons_of_mem _ (iX1 w h)) hown hK hP 0 rfl rfl 2 (by decide) hf_full (fun _ h9 => h9) rfl dX1_select_47 ?_
          refine lv_iload hx hb dX1_select_50 (lv_at hl 4 rfl) ?_
          refine va_zald hx hb hK hP 1 0 rfl rfl hi_2 dX1_select_52 ?_
          refine lv_if_eq (tgt := 60) hx hb dX1_select_53 (by decide) (fun c_4 => ?_) (fun c_4 => ?_)
          · refine lv_iconst (v := 0) hx hb dX1_select_60 (by decide) ?_
            refine lv_iadd hx hb dX1_select_61 ?_
            refine lv_istore_n (lv' := [(2, .int (x2 + 0)), (3, .long x3), (0, .ref (g 0)), (1, .int x1), (5, .int x5)]) hx hb dX1_select_62 rfl hl (by decide) rfl (fun ls hl => ?_)
            refine lv_iinc (v := (x5 + 1)) (lv' := [(5, .int (x5 + 1)), (2, .int (x2 + 0)), (3, .long x3), (0, .ref (g 0)), (1, .int x1)]) hx hb dX1_select_63 hl (k := 4) rfl rfl (by decide) rfl (fun ls hl => ?_)
            refine lv_goto (tgt := 9) hx hb dX1_select_66 (by decide) ?_
            exact ih (x2 + 0) x3 (x5 + 1) hw _ _ ls hP hD hS (lv_sub hl [3, 4, 1, 2, 0] rfl)
          · exact absurd c_3 c_4
        · replace hw := hw.2 c_3
          refine lv_iload_n hx hb dX1_select_28 rfl (lv_at hl 2 rfl) ?_
          refine lv_iload_n hx hb dX1_select_29 rfl (lv_at hl 1 rfl) ?_
          refine lv_icmp_ne (tgt := 43) hx hb dX1_select_30 (by decide) (fun c_5 => ?_) (fun c_5 => ?_)
          · replace hw := hw.2 c_5
            refine lv_lload_n hx hb dX1_select_43 rfl (lv_at hl 3 rfl) ?_
            refine lv_lstore_n (lv' := [(3, .long x3), (0, .ref (g 0)), (1, .int x1), (2, .int x2), (5, .int x5)]) hx hb dX1_select_44 rfl hl (by decide) rfl (fun ls hl => ?_)
            refine lv_iload_n hx hb dX1_select_45 rfl (lv_at hl 3 rfl) ?_
            refine lv_aload_n hx hb dX1_select_46 rfl (lv_at hl 1 rfl) ?_
            refine va_get (D := D) (ci := 1) (v := .ref (g 1)) (C := RX1) (T := TX1) (N := 10) hx hb hts (fun w h => List.mem_cons_of_mem _ (iX1 w h)) hown hK hP 0 rfl rfl 2 (by decide) hf_full (fun _ h9 => h9) rfl dX1_select_47 ?_
            refine lv_iload hx hb dX1_select_50 (lv_at hl 4 rfl) ?_
            refine va_zald hx hb hK hP 1 0 rfl rfl hi_2 dX1_select_52 ?_
            refine lv_if_eq (tgt := 60) hx hb dX1_select_53 (by decide) (fun c_6 => ?_) (fun c_6 => ?_)
            · exact absurd c_6 c_3
            · refine lv_iconst (v := 1) hx hb dX1_select_56 (by decide) ?_
              refine lv_goto (tgt := 61) hx hb dX1_select_57 (by decide) ?_
              refine lv_iadd hx hb dX1_select_61 ?_
              refine lv_istore_n (lv' := [(2, .int (x2 + 1)), (3, .long x3), (0, .ref (g 0)), (1, .int x1), (5, .int x5)]) hx hb dX1_select_62 rfl hl (by decide) rfl (fun ls hl => ?_)
              refine lv_iinc (v := (x5 + 1)) (lv' := [(5, .int (x5 + 1)), (2, .int (x2 + 1)), (3, .long x3), (0, .ref (g 0)), (1, .int x1)]) hx hb dX1_select_63 hl (k := 4) rfl rfl (by decide) rfl (fun ls hl => ?_)
              refine lv_goto (tgt := 9) hx hb dX1_select_66 (by decide) ?_
              exact ih (x2 + 1) x3 (x5 + 1) hw _ _ ls hP hD hS (lv_sub hl [3, 4, 1, 2, 0] rfl)
          · replace hw := hw.1 c_5
            refine lv_aload_n hx hb dX1_select_33 rfl (lv_at hl 0 rfl) ?_
            refine va_get (D := D) (ci := 1) (v := .ref (g 2)) (C := RX1) (T := TX1) (N := 10) hx hb hts (fun w h => List.mem_cons_of_mem _ (iX1 w h)) hown hK hP 0 rfl rfl 3 (by decide) hf_keys (fun _ h9 => h9) rfl dX1_select_34 ?_
            refine lv_iload hx hb dX1_select_37 (lv_at hl 4 rfl) ?_
            refine va_lald hx hb hK hP 2 1 rfl rfl hi_2 dX1_select_39 ?_
            refine lv_goto (tgt := 44) hx hb dX1_select_40 (by decide) ?_
            refine lv_lstore_n (lv' := [(3, .long (kM x5.toNatClampNeg)), (0, .ref (g 0)), (1, .int x1), (2, .int x2), (5, .int x5)]) hx hb dX1_select_44 rfl hl (by decide) rfl (fun ls hl => ?_)
            refine lv_iload_n hx hb dX1_select_45 rfl (lv_at hl 3 rfl) ?_
            refine lv_aload_n hx hb dX1_select_46 rfl (lv_at hl 1 rfl) ?_
            refine va_get (D := D) (ci := 1) (v := .ref (g 1)) (C := RX1) (T := TX1) (N := 10) hx hb hts (fun w h => List.mem_cons_of_mem _ (iX1 w h)) hown hK hP 0 rfl rfl 2 (by decide) hf_full (fun _ h9 => h9) rfl dX1_select_47 ?_
            refine lv_iload hx hb dX1_select_50 (lv_at hl 4 rfl) ?_
            refine va_zald hx hb hK hP 1 0 rfl rfl hi_2 dX1_select_52 ?_
            refine lv_if_eq (tgt := 60) hx hb dX1_select_53 (by decide) (fun c_7 => ?_) (fun c_7 => ?_)
            · exact absurd c_7 c_3
            · refine lv_iconst (v := 1) hx hb dX1_select_56 (by decide) ?_
              refine lv_goto (tgt := 61) hx hb dX1_select_57 (by decide) ?_
              refine lv_iadd hx hb dX1_select_61 ?_
              refine lv_istore_n (lv' := [(2, .int (x2 + 1)), (3, .long (kM x5.toNatClampNeg)), (0, .ref (g 0)), (1, .int x1), (5, .int x5)]) hx hb dX1_select_62 rfl hl (by decide) rfl (fun ls hl => ?_)
              refine lv_iinc (v := (x5 + 1)) (lv' := [(5, .int (x5 + 1)), (2, .int (x2 + 1)), (3, .long (kM x5.toNatClampNeg)), (0, .ref (g 0)), (1, .int x1)]) hx hb dX1_select_63 hl (k := 4) rfl rfl (by decide) rfl (fun ls hl => ?_)
              refine lv_goto (tgt := 9) hx hb dX1_select_66 (by decide) ?_
              exact ih (x2 + 1) (kM x5.toNatClampNeg) (x5 + 1) hw _ _ ls hP hD hS (lv_sub hl [3, 4, 1, 2, 0] rfl)
  unfold wp_M_select at hw
  refine lv_iconst (v := 0) hx hb dX1_select_0 (by decide) ?_
  refine lv_istore_n (lv' := [(2, .int 0), (0, .ref (g 0)), (1, .int a1)]) hx hb dX1_select_1 rfl hl (by decide) rfl (fun ls hl => ?_)
  refine lv_ldc2 (v := NOK) hx hb hown (hts _ (List.mem_cons_of_mem _ tcn_X1_40)) dX1_select_2 ?_
  refine lv_lstore_n (lv' := [(3, .long NOK), (2, .int 0), (0, .ref (g 0)), (1, .int a1)]) hx hb dX1_select_5 rfl hl (by decide) rfl (fun ls hl => ?_)
  refine lv_iconst (v := 0) hx hb dX1_select_6 (by decide) ?_
  refine lv_istore (lv' := [(5, .int 0), (3, .long NOK), (2, .int 0), (0, .ref (g 0)), (1, .int a1)]) hx hb dX1_select_7 hl (by decide) rfl (fun ls hl => ?_)
  obtain ⟨n0, hw⟩ := hw
  exact L9 a1 n0 0 NOK 0 hw _ _ ls hP hD hS (lv_sub hl [3, 4, 2, 1, 0] rfl)
set_option maxHeartbeats 4000000 in
set_option maxRecDepth 100000 in
theorem c_M_count (l : Launch) (D : va_G) (g : Nat → Nat) (q : Nat → ClassId) (leM : Int32) (ceM : Int32) (fM : Nat → Int32) (kM : Nat → Int64) (vM : Nat → Int64) (wiM : Int32) (moM : Int64) (waM : Int32) (wkM : Nat → Int64) (wvM : Nat → Int64) (a1 : Int64) (a3 : Int64) (post : Int32 → Prop) (hw : wp_M_count ceM fM kM a1 a3 post) (sz : Nat) : Met l yX1_count wsX1_count ({ frames := 0, cells := 0, slots := 0, locals := 0 }) (qP D vwCl (tM q) (wM g q leM ceM fM kM vM wiM moM waM wkM wvM) sz [.ref (g 0), .long a1, .long a3]) (va_Qi (fun r (_ : Unit) => post r) (qB D vwCl (tM q) (fun _ : Unit => (wM g q leM ceM fM kM vM wiM moM waM wkM wvM)) (va_A (wM g q leM ceM fM kM vM wiM moM waM wkM wvM) sz)) (va_A (wM g q leM ceM fM kM vM wiM moM waM wkM wvM) sz)) 0 0 (va_A (wM g q leM ceM fM kM vM wiM moM waM wkM wvM) sz) := by
  refine q_enter (cc := cX1_count) (maxL := 7) (ret := (some .int)) (fun A => va_Qi (fun r (_ : Unit) => post r) (qB D vwCl (tM q) (fun _ : Unit => (wM g q leM ceM fM kM vM wiM moM waM wkM wvM)) A) A) (by decide +kernel) rfl (Nat.le_of_ble_eq_true rfl) ?_
  intro p e s m below meth c A ls hx hb hr hml hown hts hlocks hname hP hK hD hA hl
  replace hown : s.vm.findClass RX1 = some m.cls := hown
  replace hl : lv_has ls 7 [(0, .ref (g 0)), (1, .long a1), (3, .long a3)] := hl
  have hS : va_S A s.heap s.heap [] := va_S.rf
  have hf_keys := hts _ (List.mem_cons_of_mem _ tfl_X1_13)
  have hf_cells := hts _ (List.mem_cons_of_mem _ tfl_X1_33)
  have hf_full := hts _ (List.mem_cons_of_mem _ tfl_X1_7)
  have L6 : ∀ (x1 : Int64) (x3 : Int64) (n : Nat) (x5 : Int32) (x6 : Int32), wp_M_count_L6 ceM fM kM x1 x3 post n x5 x6 → ∀ (H : Heap) (locs : List Loc) (ls : Array Slot), va_P D vwCl (wM g q leM ceM fM kM vM wiM moM waM wkM wvM) H → va_D A (wM g q leM ceM fM kM vM wiM moM waM wkM wvM) → va_S A s.heap H locs → lv_has ls 7 [(0, .ref (g 0)), (1, .long x1), (3, .long x3), (5, .int x5), (6, .int x6)] → W p l e { frames := 0, cells := 0, slots := 0, locals := 0 } s m ([.ref (g 0), .long a1, .long a3] : List Value).toArray below meth c H locs 0 0 (MQ below (va_Qi (fun r (_ : Unit) => post r) (qB D vwCl (tM q) (fun _ : Unit => (wM g q leM ceM fM kM vM wiM moM waM wkM wvM)) A) A) ([.ref (g 0), .long a1, .long a3] : List Value).toArray s 0 0 A) (F0 m 6 ls []) := by
    intro x1 x3 n
    induction n with
    | zero => intro x5 x6 hw; exact False.elim (show False from hw)
    | succ n ih =>
      intro x5 x6 hw H locs ls hP hD hS hl
      rw [wp_M_count_L6] at hw
      refine lv_iload hx hb dX1_count_6 (lv_at hl 4 rfl) ?_
      refine lv_aload_n hx hb dX1_count_8 rfl (lv_at hl 0 rfl) ?_
      refine va_get (D := D) (ci := 1) (v := .int ceM) (C := RX1) (T := TX1) (N := 10) hx hb hts (fun w h => List.mem_cons_of_mem _ (iX1 w h)) hown hK hP 0 rfl rfl 1 (by decide) hf_cells (fun _ h9 => h9) rfl dX1_count_9 ?_
      refine lv_icmp_ge (tgt := 65) hx hb dX1_count_12 (by decide) (fun c_1 => ?_) (fun c_1 => ?_)
      · replace hw := hw.1 c_1
        refine lv_iload hx hb dX1_count_65 (lv_at hl 3 rfl) ?_
        exact q_iret () hx hb hr hlocks hK dX1_count_67 hS hP hD hw
      · replace hw := hw.2 c_1
        refine lv_iload hx hb dX1_count_15 (lv_at hl 3 rfl) ?_
        refine lv_aload_n hx hb dX1_count_17 rfl (lv_at hl 0 rfl) ?_
        refine va_get (D := D) (ci := 1) (v := .ref (g 1)) (C := RX1) (T := TX1) (N := 10) hx hb hts (fun w h => List.mem_cons_of_mem _ (iX1 w h)) hown hK hP 0 rfl rfl 2 (by decide) hf_full (fun _ h9 => h9) rfl dX1_count_18 ?_
        refine lv_iload hx hb dX1_count_21 (lv_at hl 4 rfl) ?_
        obtain ⟨hi_2, hw⟩ := hw
        refine va_zald hx hb hK hP 1 0 rfl rfl hi_2 dX1_count_23 ?_
        refine lv_if_eq (tgt := 55) hx hb dX1_count_24 (by decide) (fun c_3 => ?_) (fun c_3 => ?_)
        · replace hw := hw.1 c_3
          refine lv_iconst (v := 0) hx hb dX1_count_55 (by decide) ?_
          refine lv_iadd hx hb dX1_count_56 ?_
          refine lv_istore (lv' := [(5, .int (x5 + 0)), (0, .ref (g 0)), (1, .long x1), (3, .long x3), (6, .int x6)]) hx hb dX1_count_57 hl (by decide) rfl (fun ls hl => ?_)
          refine lv_iinc (v := (x6 + 1)) (lv' := [(6, .int (x6 + 1)), (5, .int (x5 + 0)), (0, .ref (g 0)), (1, .long x1), (3, .long x3)]) hx hb dX1_count_59 hl (k := 4) rfl rfl (by decide) rfl (fun ls hl => ?_)
          refine lv_goto (tgt := 6) hx hb dX1_count_62 (by decide) ?_
          exact ih (x5 + 0) (x6 + 1) hw _ _ ls hP hD hS (lv_sub hl [2, 3, 4, 1, 0] rfl)
        · replace hw := hw.2 c_3
          refine lv_aload_n hx hb dX1_count_27 rfl (lv_at hl 0 rfl) ?_
          refine va_get (D := D) (ci := 1) (v := .ref (g 2)) (C := RX1) (T := TX1) (N := 10) hx hb hts (fun w h => List.mem_cons_of_mem _ (iX1 w h)) hown hK hP 0 rfl rfl 3 (by decide) hf_keys (fun _ h9 => h9) rfl dX1_count_28 ?_
          refine lv_iload hx hb dX1_count_31 (lv_at hl 4 rfl) ?_
          refine va_lald hx hb hK hP 2 1 rfl rfl hi_2 dX1_count_33 ?_
          refine lv_lload_n hx hb dX1_count_34 rfl (lv_at hl 1 rfl) ?_
          refine q_lc_lt (tgt := 55) hx hb dX1_count_35 dX1_count_36 (by decide) (fun c_4 => ?_) (fun c_4 => ?_)
          · replace hw := hw.1 c_4
            refine lv_iconst (v := 0) hx hb dX1_count_55 (by decide) ?_
            refine lv_iadd hx hb dX1_count_56 ?_
            refine lv_istore (lv' := [(5, .int (x5 + 0)), (0, .ref (g 0)), (1, .long x1), (3, .long x3), (6, .int x6)]) hx hb dX1_count_57 hl (by decide) rfl (fun ls hl => ?_)
            refine lv_iinc (v := (x6 + 1)) (lv' := [(6, .int (x6 + 1)), (5, .int (x5 + 0)), (0, .ref (g 0)), (1, .long x1), (3, .long x3)]) hx hb dX1_count_59 hl (k := 4) rfl rfl (by decide) rfl (fun ls hl => ?_)
            refine lv_goto (tgt := 6) hx hb dX1_count_62 (by decide) ?_
            exact ih (x5 + 0) (x6 + 1) hw _ _ ls hP hD hS (lv_sub hl [2, 3, 4, 1, 0] rfl)
          · replace hw := hw.2 c_4
            refine lv_aload_n hx hb dX1_count_39 rfl (lv_at hl 0 rfl) ?_
            refine va_get (D := D) (ci := 1) (v := .ref (g 2)) (C := RX1) (T := TX1) (N := 10) hx hb hts (fun w h => List.mem_cons_of_mem _ (iX1 w h)) hown hK hP 0 rfl rfl 3 (by decide) hf_keys (fun _ h9 => h9) rfl dX1_count_40 ?_
            refine lv_iload hx hb dX1_count_43 (lv_at hl 4 rfl) ?_
            refine va_lald hx hb hK hP 2 1 rfl rfl hi_2 dX1_count_45 ?_
            refine lv_lload_n hx hb dX1_count_46 rfl (lv_at hl 2 rfl) ?_
            refine q_lc_gt (tgt := 55) hx hb dX1_count_47 dX1_count_48 (by decide) (fun c_5 => ?_) (fun c_5 => ?_)
            · replace hw := hw.1 c_5
              refine lv_iconst (v := 0) hx hb dX1_count_55 (by decide) ?_
              refine lv_iadd hx hb dX1_count_56 ?_
              refine lv_istore (lv' := [(5, .int (x5 + 0)), (0, .ref (g 0)), (1, .long x1), (3, .long x3), (6, .int x6)]) hx hb dX1_count_57 hl (by decide) rfl (fun ls hl => ?_)
              refine lv_iinc (v := (x6 + 1)) (lv' := [(6, .int (x6 + 1)), (5, .int (x5 + 0)), (0, .ref (g 0)), (1, .long x1), (3, .long x3)]) hx hb dX1_count_59 hl (k := 4) rfl rfl (by decide) rfl (fun ls hl => ?_)
              refine lv_goto (tgt := 6) hx hb dX1_count_62 (by decide) ?_
              exact ih (x5 + 0) (x6 + 1) hw _ _ ls hP hD hS (lv_sub hl [2, 3, 4, 1, 0] rfl)
            · replace hw := hw.2 c_5
              refine lv_iconst (v := 1) hx hb dX1_count_51 (by decide) ?_
              refine lv_goto (tgt := 56) hx hb dX1_count_52 (by decide) ?_
              refine lv_iadd hx hb dX1_count_56 ?_
              refine lv_istore (lv' := [(5, .int (x5 + 1)), (0, .ref (g 0)), (1, .long x1), (3, .long x3), (6, .int x6)]) hx hb dX1_count_57 hl (by decide) rfl (fun ls hl => ?_)
              refine lv_iinc (v := (x6 + 1)) (lv' := [(6, .int (x6 + 1)), (5, .int (x5 + 1)), (0, .ref (g 0)), (1, .long x1), (3, .long x3)]) hx hb dX1_count_59 hl (k := 4) rfl rfl (by decide) rfl (fun ls hl => ?_)
              refine lv_goto (tgt := 6) hx hb dX1_count_62 (by decide) ?_
              exact ih (x5 + 1) (x6 + 1) hw _ _ ls hP hD hS (lv_sub hl [2, 3, 4, 1, 0] rfl)
  unfold wp_M_count at hw
  refine lv_iconst (v := 0) hx hb dX1_count_0 (by decide) ?_
  refine lv_istore (lv' := [(5, .int 0), (0, .ref (g 0)), (1, .long a1), (3, .long a3)]) hx hb dX1_count_1 hl (by decide) rfl (fun ls hl => ?_)
  refine lv_iconst (v := 0) hx hb dX1_count_3 (by decide) ?_
  refine lv_istore (lv' := [(6, .int 0), (5, .int 0), (0, .ref (g 0)), (1, .long a1), (3, .long a3)]) hx hb dX1_count_4 hl (by decide) rfl (fun ls hl => ?_)
  obtain ⟨n0, hw⟩ := hw
  exact L6 a1 a3 n0 0 0 hw _ _ ls hP hD hS (lv_sub hl [2, 3, 4, 1, 0] rfl)
set_option maxHeartbeats 4000000 in
set_option maxRecDepth 100000 in
theorem c_M_sum (l : Launch) (D : va_G) (g : Nat → Nat) (q : Nat → ClassId) (leM : Int32) (ceM : Int32) (fM : Nat → Int32) (kM : Nat → Int64) (vM : Nat → Int64) (wiM : Int32) (moM : Int64) (waM : Int32) (wkM : Nat → Int64) (wvM : Nat → Int64) (a1 : Int64) (a3 : Int64) (post : Int64 → Prop) (hw : wp_M_sum ceM fM kM vM a1 a3 post) (sz : Nat) : Met l yX1_sum wsX1_sum ({ frames := 0, cells := 0, slots := 0, locals := 0 }) (qP D vwCl (tM q) (wM g q leM ceM fM kM vM wiM moM waM wkM wvM) sz [.ref (g 0), .long a1, .long a3]) (va_Ql (fun r (_ : Unit) => post r) (qB D vwCl (tM q) (fun _ : Unit => (wM g q leM ceM fM kM vM wiM moM waM wkM wvM)) (va_A (wM g q leM ceM fM kM vM wiM moM waM wkM wvM) sz)) (va_A (wM g q leM ceM fM kM vM wiM moM waM wkM wvM) sz)) 0 0 (va_A (wM g q leM ceM fM kM vM wiM moM waM wkM wvM) sz) := by
  refine q_enter (cc := cX1_sum) (maxL := 8) (ret := (some .long)) (fun A => va_Ql (fun r (_ : Unit) => post r) (qB D vwCl (tM q) (fun _ : Unit => (wM g q leM ceM fM kM vM wiM moM waM wkM wvM)) A) A) (by decide +kernel) rfl (Nat.le_of_ble_eq_true rfl) ?_
  intro p e s m below meth c A ls hx hb hr hml hown hts hlocks hname hP hK hD hA hl
  replace hown : s.vm.findClass RX1 = some m.cls := hown
  replace hl : lv_has ls 8 [(0, .ref (g 0)), (1, .long a1), (3, .long a3)] := hl
  have hS : va_S A s.heap s.heap [] := va_S.rf
  have hf_keys := hts _ (List.mem_cons_of_mem _ tfl_X1_13)
  have hf_values := hts _ (List.mem_cons_of_mem _ tfl_X1_17)
  have hf_cells := hts _ (List.mem_cons_of_mem _ tfl_X1_33)
  have hf_full := hts _ (List.mem_cons_of_mem _ tfl_X1_7)
  have L6 : ∀ (x1 : Int64) (x3 : Int64) (n : Nat) (x5 : Int64) (x7 : Int32), wp_M_sum_L6 ceM fM kM vM x1 x3 post n x5 x7 → ∀ (H : Heap) (locs : List Loc) (ls : Array Slot), va_P D vwCl (wM g q leM ceM fM kM vM wiM moM waM wkM wvM) H → va_D A (wM g q leM ceM fM kM vM wiM moM waM wkM wvM) → va_S A s.heap H locs → lv_has ls 8 [(0, .ref (g 0)), (1, .long x1), (3, .long x3), (5, .long x5), (7, .int x7)] → W p l e { frames := 0, cells := 0, slots := 0, locals := 0 } s m ([.ref (g 0), .long a1, .long a3] : List Value).toArray below meth c H locs 0 0 (MQ below (va_Ql (fun r (_ : Unit) => post r) (qB D vwCl (tM q) (fun _ : Unit => (wM g q leM ceM fM kM vM wiM moM waM wkM wvM)) A) A) ([.ref (g 0), .long a1, .long a3] : List Value).toArray s 0 0 A) (F0 m 6 ls []) := by
    intro x1 x3 n
    induction n with
    | zero => intro x5 x7 hw; exact False.elim (show False from hw)
    | succ n ih =>
      intro x5 x7 hw H locs ls hP hD hS hl
      rw [wp_M_sum_L6] at hw
      refine lv_iload hx hb dX1_sum_6 (lv_at hl 4 rfl) ?_
      refine lv_aload_n hx hb dX1_sum_8 rfl (lv_at hl 0 rfl) ?_
      refine va_get (D := D) (ci := 1) (v := .int ceM) (C := RX1) (T := TX1) (N := 10) hx hb hts (fun w h => List.mem_cons_of_mem _ (iX1 w h)) hown hK hP 0 rfl rfl 1 (by decide) hf_cells (fun _ h9 => h9) rfl dX1_sum_9 ?_
      refine lv_icmp_ge (tgt := 71) hx hb dX1_sum_12 (by decide) (fun c_1 => ?_) (fun c_1 => ?_)
      · replace hw := hw.1 c_1
        refine lv_lload hx hb dX1_sum_71 (lv_at hl 3 rfl) ?_
        exact q_lret () hx hb hr hlocks hK dX1_sum_73 hS hP hD hw
      · replace hw := hw.2 c_1
        refine lv_lload hx hb dX1_sum_15 (lv_at hl 3 rfl) ?_
        refine lv_aload_n hx hb dX1_sum_17 rfl (lv_at hl 0 rfl) ?_
        refine va_get (D := D) (ci := 1) (v := .ref (g 1)) (C := RX1) (T := TX1) (N := 10) hx hb hts (fun w h => List.mem_cons_of_mem _ (iX1 w h)) hown hK hP 0 rfl rfl 2 (by decide) hf_full (fun _ h9 => h9) rfl dX1_sum_18 ?_
        refine lv_iload hx hb dX1_sum_21 (lv_at hl 4 rfl) ?_
        obtain ⟨hi_2, hw⟩ := hw
        refine va_zald hx hb hK hP 1 0 rfl rfl hi_2 dX1_sum_23 ?_
        refine lv_if_eq (tgt := 61) hx hb dX1_sum_24 (by decide) (fun c_3 => ?_) (fun c_3 => ?_)
        · replace hw := hw.1 c_3
          refine lv_lconst (v := 0) hx hb dX1_sum_61 (by decide) ?_
          refine lv_ladd hx hb dX1_sum_62 ?_
          refine lv_lstore (lv' := [(5, .long (x5 + 0)), (0, .ref (g 0)), (1, .long x1), (3, .long x3), (7, .int x7)]) hx hb dX1_sum_63 hl (by decide) rfl (fun ls hl => ?_)
          refine lv_iinc (v := (x7 + 1)) (lv' := [(7, .int (x7 + 1)), (5, .long (x5 + 0)), (0, .ref (g 0)), (1, .long x1), (3, .long x3)]) hx hb dX1_sum_65 hl (k := 4) rfl rfl (by decide) rfl (fun ls hl => ?_)
          refine lv_goto (tgt := 6) hx hb dX1_sum_68 (by decide) ?_
          exact ih (x5 + 0) (x7 + 1) hw _ _ ls hP hD hS (lv_sub hl [2, 3, 4, 1, 0] rfl)
        · replace hw := hw.2 c_3
          refine lv_aload_n hx hb dX1_sum_27 rfl (lv_at hl 0 rfl) ?_
          refine va_get (D := D) (ci := 1) (v := .ref (g 2)) (C := RX1) (T := TX1) (N := 10) hx hb hts (fun w h => List.mem_cons_of_mem _ (iX1 w h)) hown hK hP 0 rfl rfl 3 (by decide) hf_keys (fun _ h9 => h9) rfl dX1_sum_28 ?_
          refine lv_iload hx hb dX1_sum_31 (lv_at hl 4 rfl) ?_
          refine va_lald hx hb hK hP 2 1 rfl rfl hi_2 dX1_sum_33 ?_
          refine lv_lload_n hx hb dX1_sum_34 rfl (lv_at hl 1 rfl) ?_
          refine q_lc_lt (tgt := 61) hx hb dX1_sum_35 dX1_sum_36 (by decide) (fun c_4 => ?_) (fun c_4 => ?_)
          · replace hw := hw.1 c_4
            refine lv_lconst (v := 0) hx hb dX1_sum_61 (by decide) ?_
            refine lv_ladd hx hb dX1_sum_62 ?_
            refine lv_lstore (lv' := [(5, .long (x5 + 0)), (0, .ref (g 0)), (1, .long x1), (3, .long x3), (7, .int x7)]) hx hb dX1_sum_63 hl (by decide) rfl (fun ls hl => ?_)
            refine lv_iinc (v := (x7 + 1)) (lv' := [(7, .int (x7 + 1)), (5, .long (x5 + 0)), (0, .ref (g 0)), (1, .long x1), (3, .long x3)]) hx hb dX1_sum_65 hl (k := 4) rfl rfl (by decide) rfl (fun ls hl => ?_)
            refine lv_goto (tgt := 6) hx hb dX1_sum_68 (by decide) ?_
            exact ih (x5 + 0) (x7 + 1) hw _ _ ls hP hD hS (lv_sub hl [2, 3, 4, 1, 0] rfl)
          · replace hw := hw.2 c_4
            refine lv_aload_n hx hb dX1_sum_39 rfl (lv_at hl 0 rfl) ?_
            refine va_get (D := D) (ci := 1) (v := .ref (g 2)) (C := RX1) (T := TX1) (N := 10) hx hb hts (fun w h => List.mem_cons_of_mem _ (iX1 w h)) hown hK hP 0 rfl rfl 3 (by decide) hf_keys (fun _ h9 => h9) rfl dX1_sum_40 ?_
            refine lv_iload hx hb dX1_sum_43 (lv_at hl 4 rfl) ?_
            refine va_lald hx hb hK hP 2 1 rfl rfl hi_2 dX1_sum_45 ?_
            refine lv_lload_n hx hb dX1_sum_46 rfl (lv_at hl 2 rfl) ?_
            refine q_lc_gt (tgt := 61) hx hb dX1_sum_47 dX1_sum_48 (by decide) (fun c_5 => ?_) (fun c_5 => ?_)
            · replace hw := hw.1 c_5
              refine lv_lconst (v := 0) hx hb dX1_sum_61 (by decide) ?_
              refine lv_ladd hx hb dX1_sum_62 ?_
              refine lv_lstore (lv' := [(5, .long (x5 + 0)), (0, .ref (g 0)), (1, .long x1), (3, .long x3), (7, .int x7)]) hx hb dX1_sum_63 hl (by decide) rfl (fun ls hl => ?_)
              refine lv_iinc (v := (x7 + 1)) (lv' := [(7, .int (x7 + 1)), (5, .long (x5 + 0)), (0, .ref (g 0)), (1, .long x1), (3, .long x3)]) hx hb dX1_sum_65 hl (k := 4) rfl rfl (by decide) rfl (fun ls hl => ?_)
              refine lv_goto (tgt := 6) hx hb dX1_sum_68 (by decide) ?_
              exact ih (x5 + 0) (x7 + 1) hw _ _ ls hP hD hS (lv_sub hl [2, 3, 4, 1, 0] rfl)
            · replace hw := hw.2 c_5
              refine lv_aload_n hx hb dX1_sum_51 rfl (lv_at hl 0 rfl) ?_
              refine va_get (D := D) (ci := 1) (v := .ref (g 3)) (C := RX1) (T := TX1) (N := 10) hx hb hts (fun w h => List.mem_cons_of_mem _ (iX1 w h)) hown hK hP 0 rfl rfl 4 (by decide) hf_values (fun _ h9 => h9) rfl dX1_sum_52 ?_
              refine lv_iload hx hb dX1_sum_55 (lv_at hl 4 rfl) ?_
              refine va_lald hx hb hK hP 3 2 rfl rfl hi_2 dX1_sum_57 ?_
              refine lv_goto (tgt := 62) hx hb dX1_sum_58 (by decide) ?_
              refine lv_ladd hx hb dX1_sum_62 ?_
              refine lv_lstore (lv' := [(5, .long (x5 + (vM x7.toNatClampNeg))), (0, .ref (g 0)), (1, .long x1), (3, .long x3), (7, .int x7)]) hx hb dX1_sum_63 hl (by decide) rfl (fun ls hl => ?_)
              refine lv_iinc (v := (x7 + 1)) (lv' := [(7, .int (x7 + 1)), (5, .long (x5 + (vM x7.toNatClampNeg))), (0, .ref (g 0)), (1, .long x1), (3, .long x3)]) hx hb dX1_sum_65 hl (k := 4) rfl rfl (by decide) rfl (fun ls hl => ?_)
              refine lv_goto (tgt := 6) hx hb dX1_sum_68 (by decide) ?_
              exact ih (x5 + (vM x7.toNatClampNeg)) (x7 + 1) hw _ _ ls hP hD hS (lv_sub hl [2, 3, 4, 1, 0] rfl)
  unfold wp_M_sum at hw
  refine lv_lconst (v := 0) hx hb dX1_sum_0 (by decide) ?_
  refine lv_lstore (lv' := [(5, .long 0), (0, .ref (g 0)), (1, .long a1), (3, .long a3)]) hx hb dX1_sum_1 hl (by decide) rfl (fun ls hl => ?_)
  refine lv_iconst (v := 0) hx hb dX1_sum_3 (by decide) ?_
  refine lv_istore (lv' := [(7, .int 0), (5, .long 0), (0, .ref (g 0)), (1, .long a1), (3, .long a3)]) hx hb dX1_sum_4 hl (by decide) rfl (fun ls hl => ?_)
  obtain ⟨n0, hw⟩ := hw
  exact L6 a1 a3 n0 0 0 hw _ _ ls hP hD hS (lv_sub hl [2, 3, 4, 1, 0] rfl)
set_option maxHeartbeats 4000000 in
set_option maxRecDepth 100000 in
theorem c_M_size (l : Launch) (D : va_G) (g : Nat → Nat) (q : Nat → ClassId) (leM : Int32) (ceM : Int32) (fM : Nat → Int32) (kM : Nat → Int64) (vM : Nat → Int64) (wiM : Int32) (moM : Int64) (waM : Int32) (wkM : Nat → Int64) (wvM : Nat → Int64) (post : Int32 → Prop) (hw : wp_M_size ceM fM post) (sz : Nat) : Met l yX1_size wsX1_size ({ frames := 1, cells := 0, slots := 0, locals := 24 }) (qP D vwCl (tM q) (wM g q leM ceM fM kM vM wiM moM waM wkM wvM) sz [.ref (g 0)]) (va_Qi (fun r (_ : Unit) => post r) (qB D vwCl (tM q) (fun _ : Unit => (wM g q leM ceM fM kM vM wiM moM waM wkM wvM)) (va_A (wM g q leM ceM fM kM vM wiM moM waM wkM wvM) sz)) (va_A (wM g q leM ceM fM kM vM wiM moM waM wkM wvM) sz)) 0 0 (va_A (wM g q leM ceM fM kM vM wiM moM waM wkM wvM) sz) := by
  refine q_enter (cc := cX1_size) (maxL := 1) (ret := (some .int)) (fun A => va_Qi (fun r (_ : Unit) => post r) (qB D vwCl (tM q) (fun _ : Unit => (wM g q leM ceM fM kM vM wiM moM waM wkM wvM)) A) A) (by decide +kernel) rfl (Nat.le_of_ble_eq_true rfl) ?_
  intro p e s m below meth c A ls hx hb hr hml hown hts hlocks hname hP hK hD hA hl
  replace hown : s.vm.findClass RX1 = some m.cls := hown
  replace hl : lv_has ls 1 [(0, .ref (g 0))] := hl
  have hS : va_S A s.heap s.heap [] := va_S.rf
  have hf_cells := hts _ (List.mem_cons_of_mem _ tfl_X1_33)
  unfold wp_M_size at hw
  refine lv_aload_n hx hb dX1_size_0 rfl (lv_at hl 0 rfl) ?_
  refine lv_iconst (v := 0) hx hb dX1_size_1 (by decide) ?_
  refine lv_aload_n hx hb dX1_size_2 rfl (lv_at hl 0 rfl) ?_
  refine va_get (D := D) (ci := 1) (v := .int ceM) (C := RX1) (T := TX1) (N := 10) hx hb hts (fun w h => List.mem_cons_of_mem _ (iX1 w h)) hown hK hP 0 rfl rfl 1 (by decide) hf_cells (fun _ h9 => h9) rfl dX1_size_3 ?_
  refine q_callVi (As := [.int 0, .int ceM]) (rest := []) (wr := []) [0, 1, 2, 3, 4, 5] [] ⟨hx, hb, hml, hown, hts⟩ (c_M_held l D g q leM ceM fM kM vM wiM moM waM wkM wvM 0 ceM _ hw _) (cwV 2 hts gX1_size_X1_held rfl rfl rfl (by decide +kernel) ⟨Nat.le_of_ble_eq_true rfl, Nat.le_of_ble_eq_true rfl⟩) (va_recv hK hP (ci := 1) (q0 := 0) rfl rfl) hK hP hD hS hA rfl rfl rfl (by decide) (by decide) (by decide) rfl hl.1 rfl (Nat.le_of_ble_eq_true rfl) dX1_size_6 ⟨Nat.zero_le _, Nat.zero_le _⟩ (fun r_1 u H locs hw hP hD hS => ?_)
  try dsimp only at hw
  replace hP : va_P D vwCl (wM g q leM ceM fM kM vM wiM moM waM wkM wvM) H := hP
  replace hD : va_D A (wM g q leM ceM fM kM vM wiM moM waM wkM wvM) := hD
  exact q_iret () hx hb hr hlocks hK dX1_size_9 hS hP hD hw
