abbrev wL (g : Nat → Nat) (q : Nat → ClassId) (h : Nat → Nat) (z : Nat → ClassId) (kS : Nat → Int64) (vS : Nat → Int64) (bS : Nat → Int32) (llS : Int32) (lvS : Int32) (lhS : Int32) (mvS : Int64) (leM : Int32) (ceM : Int32) (fM : Nat → Int32) (kM : Nat → Int64) (vM : Nat → Int64) (wiM : Int32) (moM : Int64) (waM : Int32) (wkM : Nat → Int64) (wvM : Nat → Int64) : va_W := wS g q kS vS bS llS lvS lhS mvS ++ wM h z leM ceM fM kM vM wiM moM waM wkM wvM
abbrev tL (q z : Nat → ClassId) : List (ClassId × FieldType) := tS q ++ tM z
set_option maxHeartbeats 16000000 in
set_option maxRecDepth 100000 in
theorem law_loop {p : Program} {l : Launch} {e : Env} {s : State} {m : MethodId} {below : List Frame} {meth : Method} {c : Code} {D : va_G} {b L : Nat} {xs : Nat → Int32} (g : Nat → Nat) (q : Nat → ClassId) (h : Nat → Nat) (z : Nat → ClassId) (llS leM : Int32) (C0 : lw_At p s m meth c b L xs) (hK : va_K D vwCl (tL q z) s) :
    ∀ (n : Nat) (x3 : Int32) (kS : Nat → Int64) (vS : Nat → Int64) (bS : Nat → Int32) (lvS : Int32) (lhS : Int32) (mvS : Int64) (ceM : Int32) (fM : Nat → Int32) (kM : Nat → Int64) (vM : Nat → Int64) (wiM : Int32) (moM : Int64) (waM : Int32) (wkM : Nat → Int64) (wvM : Nat → Int64), wp_L_loop xs L llS leM n x3 kS vS bS lvS lhS mvS ceM fM kM vM wiM moM waM wkM wvM → ∀ (H : Heap) (locs : List Loc) (ls : Array Slot), va_P D vwCl (wL g q h z kS vS bS llS lvS lhS mvS leM ceM fM kM vM wiM moM waM wkM wvM) H → va_D (fun q : Nat => s.heap.size ≤ q) (wL g q h z kS vS bS llS lvS lhS mvS leM ceM fM kM vM wiM moM waM wkM wvM) → va_S (fun q : Nat => s.heap.size ≤ q) s.heap H locs → lv_has ls 4 [(0, .ref b), (1, .ref (g 0)), (2, .ref (h 0)), (3, .int x3)] → W p l e room_1 s m #[Value.ref b] below meth c H locs 10 3617 (lw_Z below #[Value.ref b] s) (F0 m 28 ls []) := by
  obtain ⟨hx, hb, hr, hml, hown, hts, hX, hbl, hlocks, hgv⟩ := C0
  replace hown : s.vm.findClass RL = some m.cls := hown
  replace hts : ∀ w ∈ TB, w.before #[Value.ref b] s = true := fun w h => hts w (tb_in h)
  have hA : ∀ q : Nat, s.heap.size ≤ q → (fun q : Nat => s.heap.size ≤ q) q := fun _ h => h
  have hbA : ¬ (fun q : Nat => s.heap.size ≤ q) b := Nat.not_le.mpr hbl
  intro n
  induction n with
  | zero => intro x3 kS vS bS lvS lhS mvS ceM fM kM vM wiM moM waM wkM wvM hw; exact False.elim (show False from hw)
  | succ n ih =>
    intro x3 kS vS bS lvS lhS mvS ceM fM kM vM wiM moM waM wkM wvM hw H locs ls hP hD hS hl
    rw [wp_L_loop] at hw
    refine lv_iload_n hx hb dL_law_28 rfl (lv_at hl 3 rfl) ?_
    refine lv_aload_n hx hb dL_law_29 rfl (lv_at hl 0 rfl) ?_
    refine va_slen hx hb hX hbl hbA hS dL_law_30 ?_
    refine lv_bipush (v := 6) hx hb dL_law_31 (by decide) ?_
    refine lv_isub hx hb dL_law_33 ?_
    refine lv_icmp_gt (tgt := 1063) hx hb dL_law_34 (by decide) (fun c_1 => ?_) (fun c_1 => ?_)
    · replace hw := hw.1 c_1
      refine lv_iconst (v := 1) hx hb dL_law_1063 (by decide) ?_
      refine va_forget (fun q hq => hS.2.2 q hq) ?_
      refine W.widen (k := 600000) (n := 7302250) (Nat.le_of_ble_eq_true rfl) (Nat.le_of_ble_eq_true rfl) ?_
      exact lw_ret hx hb hr hlocks dL_law_1064
    · replace hw := hw.2 c_1
      refine lv_aload_n hx hb dL_law_37 rfl (lv_at hl 0 rfl) ?_
      refine lv_iload_n hx hb dL_law_38 rfl (lv_at hl 3 rfl) ?_
      obtain ⟨hi_2, hw⟩ := hw
      refine va_sld hx hb hX hbl hbA hS hi_2 dL_law_39 ?_
      refine lv_bipush (v := 31) hx hb dL_law_40 (by decide) ?_
      refine lv_iand hx hb dL_law_42 ?_
      refine lv_topi (fun v ev => ?_)
      rw [← ev] at hw
      obtain ⟨j, hj, ej⟩ : ∃ j : Nat, j < 32 ∧ v = nI j := by rw [ev]; exact pk_andE _ 5 (by decide)
      have hc : j = 0 ∨ j = 1 ∨ j = 2 ∨ j = 3 ∨ j = 4 ∨ j = 5 ∨ j = 6 ∨ j = 7 ∨ j = 8 ∨ j = 9 ∨ j = 10 ∨ j = 11 ∨ j = 12 ∨ j = 13 ∨ j = 14 ∨ j = 15 ∨ j = 16 ∨ j = 17 ∨ j = 18 ∨ 19 ≤ j := by omega
      rcases hc with rfl | rfl | rfl | rfl | rfl | rfl | rfl | rfl | rfl | rfl | rfl | rfl | rfl | rfl | rfl | rfl | rfl | rfl | rfl | hc
      · refine lv_tableIn (tgt := 132) (off := 89) hx hb dL_law_43 (by rw [ej]; decide) (by rw [ej]; decide) (by rw [ej]; rfl) (by decide) ?_
        replace hw := hw.1 ej
        refine lv_aload_n hx hb dL_law_132 rfl (lv_at hl 1 rfl) ?_
        refine lv_aload_n hx hb dL_law_133 rfl (lv_at hl 0 rfl) ?_
        refine lv_iload_n hx hb dL_law_134 rfl (lv_at hl 3 rfl) ?_
        refine lv_iconst (v := 1) hx hb dL_law_135 (by decide) ?_
        refine lv_iadd hx hb dL_law_136 ?_
        obtain ⟨hi_3, hw⟩ := hw
        refine va_sld hx hb hX hbl hbA hS hi_3 dL_law_137 ?_
        refine lv_i2l hx hb dL_law_138 rfl ?_
        refine lv_bipush (v := 32) hx hb dL_law_139 (by decide) ?_
        refine lv_lshl hx hb dL_law_141 rfl ?_
        refine lv_aload_n hx hb dL_law_142 rfl (lv_at hl 0 rfl) ?_
        refine lv_iload_n hx hb dL_law_143 rfl (lv_at hl 3 rfl) ?_
        refine lv_iconst (v := 2) hx hb dL_law_144 (by decide) ?_
        refine lv_iadd hx hb dL_law_145 ?_
        obtain ⟨hi_4, hw⟩ := hw
        refine va_sld hx hb hX hbl hbA hS hi_4 dL_law_146 ?_
        refine lv_i2l hx hb dL_law_147 rfl ?_
        refine lv_ldc2 (v := 4294967295) hx hb hown (hts _ tcn_L_21) dL_law_148 ?_
        refine lv_land hx hb dL_law_151 ?_
        refine lv_lor hx hb dL_law_152 ?_
        refine lv_aload_n hx hb dL_law_153 rfl (lv_at hl 0 rfl) ?_
        refine lv_iload_n hx hb dL_law_154 rfl (lv_at hl 3 rfl) ?_
        refine lv_iconst (v := 3) hx hb dL_law_155 (by decide) ?_
        refine lv_iadd hx hb dL_law_156 ?_
        obtain ⟨hi_5, hw⟩ := hw
        refine va_sld hx hb hX hbl hbA hS hi_5 dL_law_157 ?_
        refine lv_i2l hx hb dL_law_158 rfl ?_
        refine lv_bipush (v := 32) hx hb dL_law_159 (by decide) ?_
        refine lv_lshl hx hb dL_law_161 rfl ?_
        refine lv_aload_n hx hb dL_law_162 rfl (lv_at hl 0 rfl) ?_
        refine lv_iload_n hx hb dL_law_163 rfl (lv_at hl 3 rfl) ?_
        refine lv_iconst (v := 4) hx hb dL_law_164 (by decide) ?_
        refine lv_iadd hx hb dL_law_165 ?_
        obtain ⟨hi_6, hw⟩ := hw
        refine va_sld hx hb hX hbl hbA hS hi_6 dL_law_166 ?_
        refine lv_i2l hx hb dL_law_167 rfl ?_
        refine lv_ldc2 (v := 4294967295) hx hb hown (hts _ tcn_L_21) dL_law_168 ?_
        refine lv_land hx hb dL_law_171 ?_
        refine lv_lor hx hb dL_law_172 ?_
        refine q_callVi (As := [.long (((xs (x3 + 1).toNatClampNeg).toInt64 <<< ((32 : Int32).toInt64 &&& 63)) ||| ((xs (x3 + 2).toNatClampNeg).toInt64 &&& 4294967295)), .long (((xs (x3 + 3).toNatClampNeg).toInt64 <<< ((32 : Int32).toInt64 &&& 63)) ||| ((xs (x3 + 4).toNatClampNeg).toInt64 &&& 4294967295))]) (rest := []) (wr := (wM h z leM ceM fM kM vM wiM moM waM wkM wvM)) [0, 1, 2, 3] [4, 5, 6, 7, 8, 9] ⟨hx, hb, hml, hown, hts⟩ (c_S_put l D g q kS vS bS llS lvS lhS mvS (((xs (x3 + 1).toNatClampNeg).toInt64 <<< ((32 : Int32).toInt64 &&& 63)) ||| ((xs (x3 + 2).toNatClampNeg).toInt64 &&& 4294967295)) (((xs (x3 + 3).toNatClampNeg).toInt64 <<< ((32 : Int32).toInt64 &&& 63)) ||| ((xs (x3 + 4).toNatClampNeg).toInt64 &&& 4294967295)) _ hw _) (cwV 2 hts gL_law_X0_put rfl rfl rfl (by decide +kernel) ⟨Nat.le_of_ble_eq_true rfl, Nat.le_of_ble_eq_true rfl⟩) (va_recv hK hP (ci := 0) (q0 := 0) rfl rfl) (hK.sub (tys' := tS q) [0, 1, 2] rfl) hP hD hS hA rfl rfl rfl (by decide) (by decide) (by decide) rfl hl.1 rfl (Nat.le_of_ble_eq_true rfl) dL_law_173 ⟨Nat.le_of_ble_eq_true rfl, Nat.le_of_ble_eq_true rfl⟩ (fun r_7 u H locs hw hP hD hS => ?_)
        obtain ⟨kS_8, vS_9, lvS_10, lhS_11, mvS_12⟩ := u
        try dsimp only at hw
        replace hP : va_P D vwCl (wL g q h z kS_8 vS_9 bS llS lvS_10 lhS_11 mvS_12 leM ceM fM kM vM wiM moM waM wkM wvM) H := hP.sub [6, 7, 8, 9, 0, 1, 2, 3, 4, 5] rfl
        replace hD : va_D (fun q : Nat => s.heap.size ≤ q) (wL g q h z kS_8 vS_9 bS llS lvS_10 lhS_11 mvS_12 leM ceM fM kM vM wiM moM waM wkM wvM) := hD.sub [6, 7, 8, 9, 0, 1, 2, 3, 4, 5] (by decide) rfl
        refine lv_aload_n hx hb dL_law_176 rfl (lv_at hl 2 rfl) ?_
        refine lv_aload_n hx hb dL_law_177 rfl (lv_at hl 0 rfl) ?_
        refine lv_iload_n hx hb dL_law_178 rfl (lv_at hl 3 rfl) ?_
        refine lv_iconst (v := 1) hx hb dL_law_179 (by decide) ?_
        refine lv_iadd hx hb dL_law_180 ?_
        refine va_sld hx hb hX hbl hbA hS hi_3 dL_law_181 ?_
        refine lv_i2l hx hb dL_law_182 rfl ?_
        refine lv_bipush (v := 32) hx hb dL_law_183 (by decide) ?_
        refine lv_lshl hx hb dL_law_185 rfl ?_
        refine lv_aload_n hx hb dL_law_186 rfl (lv_at hl 0 rfl) ?_
        refine lv_iload_n hx hb dL_law_187 rfl (lv_at hl 3 rfl) ?_
        refine lv_iconst (v := 2) hx hb dL_law_188 (by decide) ?_
        refine lv_iadd hx hb dL_law_189 ?_
        refine va_sld hx hb hX hbl hbA hS hi_4 dL_law_190 ?_
        refine lv_i2l hx hb dL_law_191 rfl ?_
        refine lv_ldc2 (v := 4294967295) hx hb hown (hts _ tcn_L_21) dL_law_192 ?_
        refine lv_land hx hb dL_law_195 ?_
        refine lv_lor hx hb dL_law_196 ?_
        refine lv_aload_n hx hb dL_law_197 rfl (lv_at hl 0 rfl) ?_
        refine lv_iload_n hx hb dL_law_198 rfl (lv_at hl 3 rfl) ?_
        refine lv_iconst (v := 3) hx hb dL_law_199 (by decide) ?_
        refine lv_iadd hx hb dL_law_200 ?_
        refine va_sld hx hb hX hbl hbA hS hi_5 dL_law_201 ?_
        refine lv_i2l hx hb dL_law_202 rfl ?_
        refine lv_bipush (v := 32) hx hb dL_law_203 (by decide) ?_
        refine lv_lshl hx hb dL_law_205 rfl ?_
        refine lv_aload_n hx hb dL_law_206 rfl (lv_at hl 0 rfl) ?_
        refine lv_iload_n hx hb dL_law_207 rfl (lv_at hl 3 rfl) ?_
        refine lv_iconst (v := 4) hx hb dL_law_208 (by decide) ?_
        refine lv_iadd hx hb dL_law_209 ?_
        refine va_sld hx hb hX hbl hbA hS hi_6 dL_law_210 ?_
        refine lv_i2l hx hb dL_law_211 rfl ?_
        refine lv_ldc2 (v := 4294967295) hx hb hown (hts _ tcn_L_21) dL_law_212 ?_
        refine lv_land hx hb dL_law_215 ?_
        refine lv_lor hx hb dL_law_216 ?_
        refine q_callVi (As := [.long (((xs (x3 + 1).toNatClampNeg).toInt64 <<< ((32 : Int32).toInt64 &&& 63)) ||| ((xs (x3 + 2).toNatClampNeg).toInt64 &&& 4294967295)), .long (((xs (x3 + 3).toNatClampNeg).toInt64 <<< ((32 : Int32).toInt64 &&& 63)) ||| ((xs (x3 + 4).toNatClampNeg).toInt64 &&& 4294967295))]) (rest := [.int r_7]) (wr := (wS g q kS_8 vS_9 bS llS lvS_10 lhS_11 mvS_12)) [4, 5, 6, 7, 8, 9] [0, 1, 2, 3] ⟨hx, hb, hml, hown, hts⟩ (c_M_put l D h z leM ceM fM kM vM wiM moM waM wkM wvM (((xs (x3 + 1).toNatClampNeg).toInt64 <<< ((32 : Int32).toInt64 &&& 63)) ||| ((xs (x3 + 2).toNatClampNeg).toInt64 &&& 4294967295)) (((xs (x3 + 3).toNatClampNeg).toInt64 <<< ((32 : Int32).toInt64 &&& 63)) ||| ((xs (x3 + 4).toNatClampNeg).toInt64 &&& 4294967295)) _ hw _) (cwV 2 hts gL_law_X1_put rfl rfl rfl (by decide +kernel) ⟨Nat.le_of_ble_eq_true rfl, Nat.le_of_ble_eq_true rfl⟩) (va_recv hK hP (ci := 1) (q0 := 4) rfl rfl) (hK.sub (tys' := tM z) [3, 4, 5, 6, 7] rfl) hP hD hS hA rfl rfl rfl (by decide) (by decide) (by decide) rfl hl.1 rfl (Nat.le_of_ble_eq_true rfl) dL_law_217 ⟨Nat.le_of_ble_eq_true rfl, Nat.le_of_ble_eq_true rfl⟩ (fun r_13 u H locs hw hP hD hS => ?_)
        obtain ⟨ceM_14, fM_15, kM_16, vM_17, wiM_18, moM_19, waM_20, wkM_21, wvM_22⟩ := u
        try dsimp only at hw
        replace hP : va_P D vwCl (wL g q h z kS_8 vS_9 bS llS lvS_10 lhS_11 mvS_12 leM ceM_14 fM_15 kM_16 vM_17 wiM_18 moM_19 waM_20 wkM_21 wvM_22) H := hP
        replace hD : va_D (fun q : Nat => s.heap.size ≤ q) (wL g q h z kS_8 vS_9 bS llS lvS_10 lhS_11 mvS_12 leM ceM_14 fM_15 kM_16 vM_17 wiM_18 moM_19 waM_20 wkM_21 wvM_22) := hD
        refine lv_icmp_eq (tgt := 1057) hx hb dL_law_220 (by decide) (fun c_23 => ?_) (fun c_23 => ?_)
        · replace hw := hw.1 c_23
          refine lv_iinc (v := (x3 + 6)) (lv' := [(3, .int (x3 + 6)), (0, .ref b), (1, .ref (g 0)), (2, .ref (h 0))]) hx hb dL_law_1057 hl (k := 3) rfl rfl (by decide) rfl (fun ls hl => ?_)
          refine lv_goto (tgt := 28) hx hb dL_law_1060 (by decide) ?_
          exact ih (x3 + 6) kS_8 vS_9 bS lvS_10 lhS_11 mvS_12 ceM_14 fM_15 kM_16 vM_17 wiM_18 moM_19 waM_20 wkM_21 wvM_22 hw _ _ ls hP hD hS (lv_sub hl [1, 2, 3, 0] rfl)
        · replace hw := hw.2 c_23
          refine lv_iconst (v := 0) hx hb dL_law_223 (by decide) ?_
          exact False.elim hw
      · refine lv_tableIn (tgt := 225) (off := 182) hx hb dL_law_43 (by rw [ej]; decide) (by rw [ej]; decide) (by rw [ej]; rfl) (by decide) ?_
        replace hw := hw.2.1 ej
        refine lv_aload_n hx hb dL_law_225 rfl (lv_at hl 1 rfl) ?_
        refine lv_aload_n hx hb dL_law_226 rfl (lv_at hl 0 rfl) ?_
        refine lv_iload_n hx hb dL_law_227 rfl (lv_at hl 3 rfl) ?_
        refine lv_iconst (v := 1) hx hb dL_law_228 (by decide) ?_
        refine lv_iadd hx hb dL_law_229 ?_
        obtain ⟨hi_24, hw⟩ := hw
        refine va_sld hx hb hX hbl hbA hS hi_24 dL_law_230 ?_
        refine lv_i2l hx hb dL_law_231 rfl ?_
        refine lv_bipush (v := 32) hx hb dL_law_232 (by decide) ?_
        refine lv_lshl hx hb dL_law_234 rfl ?_
        refine lv_aload_n hx hb dL_law_235 rfl (lv_at hl 0 rfl) ?_
        refine lv_iload_n hx hb dL_law_236 rfl (lv_at hl 3 rfl) ?_
        refine lv_iconst (v := 2) hx hb dL_law_237 (by decide) ?_
        refine lv_iadd hx hb dL_law_238 ?_
        obtain ⟨hi_25, hw⟩ := hw
        refine va_sld hx hb hX hbl hbA hS hi_25 dL_law_239 ?_
        refine lv_i2l hx hb dL_law_240 rfl ?_
        refine lv_ldc2 (v := 4294967295) hx hb hown (hts _ tcn_L_21) dL_law_241 ?_
        refine lv_land hx hb dL_law_244 ?_
        refine lv_lor hx hb dL_law_245 ?_
        refine lv_aload_n hx hb dL_law_246 rfl (lv_at hl 0 rfl) ?_
        refine lv_iload_n hx hb dL_law_247 rfl (lv_at hl 3 rfl) ?_
        refine lv_iconst (v := 3) hx hb dL_law_248 (by decide) ?_
        refine lv_iadd hx hb dL_law_249 ?_
        obtain ⟨hi_26, hw⟩ := hw
        refine va_sld hx hb hX hbl hbA hS hi_26 dL_law_250 ?_
        refine lv_i2l hx hb dL_law_251 rfl ?_
        refine lv_bipush (v := 32) hx hb dL_law_252 (by decide) ?_
        refine lv_lshl hx hb dL_law_254 rfl ?_
        refine lv_aload_n hx hb dL_law_255 rfl (lv_at hl 0 rfl) ?_
        refine lv_iload_n hx hb dL_law_256 rfl (lv_at hl 3 rfl) ?_
        refine lv_iconst (v := 4) hx hb dL_law_257 (by decide) ?_
        refine lv_iadd hx hb dL_law_258 ?_
        obtain ⟨hi_27, hw⟩ := hw
        refine va_sld hx hb hX hbl hbA hS hi_27 dL_law_259 ?_
        refine lv_i2l hx hb dL_law_260 rfl ?_
        refine lv_ldc2 (v := 4294967295) hx hb hown (hts _ tcn_L_21) dL_law_261 ?_
        refine lv_land hx hb dL_law_264 ?_
        refine lv_lor hx hb dL_law_265 ?_
        refine lv_aload_n hx hb dL_law_266 rfl (lv_at hl 0 rfl) ?_
        refine lv_iload_n hx hb dL_law_267 rfl (lv_at hl 3 rfl) ?_
        refine lv_iconst (v := 5) hx hb dL_law_268 (by decide) ?_
        refine lv_iadd hx hb dL_law_269 ?_
        obtain ⟨hi_28, hw⟩ := hw
        refine va_sld hx hb hX hbl hbA hS hi_28 dL_law_270 ?_
        refine q_callVi (As := [.long (((xs (x3 + 1).toNatClampNeg).toInt64 <<< ((32 : Int32).toInt64 &&& 63)) ||| ((xs (x3 + 2).toNatClampNeg).toInt64 &&& 4294967295)), .long (((xs (x3 + 3).toNatClampNeg).toInt64 <<< ((32 : Int32).toInt64 &&& 63)) ||| ((xs (x3 + 4).toNatClampNeg).toInt64 &&& 4294967295)), .int (xs (x3 + 5).toNatClampNeg)]) (rest := []) (wr := (wM h z leM ceM fM kM vM wiM moM waM wkM wvM)) [0, 1, 2, 3] [4, 5, 6, 7, 8, 9] ⟨hx, hb, hml, hown, hts⟩ (c_S_fill l D g q kS vS bS llS lvS lhS mvS (((xs (x3 + 1).toNatClampNeg).toInt64 <<< ((32 : Int32).toInt64 &&& 63)) ||| ((xs (x3 + 2).toNatClampNeg).toInt64 &&& 4294967295)) (((xs (x3 + 3).toNatClampNeg).toInt64 <<< ((32 : Int32).toInt64 &&& 63)) ||| ((xs (x3 + 4).toNatClampNeg).toInt64 &&& 4294967295)) (xs (x3 + 5).toNatClampNeg) _ hw _) (cwV 3 hts gL_law_X0_fill rfl rfl rfl (by decide +kernel) ⟨Nat.le_of_ble_eq_true rfl, Nat.le_of_ble_eq_true rfl⟩) (va_recv hK hP (ci := 0) (q0 := 0) rfl rfl) (hK.sub (tys' := tS q) [0, 1, 2] rfl) hP hD hS hA rfl rfl rfl (by decide) (by decide) (by decide) rfl hl.1 rfl (Nat.le_of_ble_eq_true rfl) dL_law_271 ⟨Nat.le_of_ble_eq_true rfl, Nat.le_of_ble_eq_true rfl⟩ (fun r_29 u H locs hw hP hD hS => ?_)
        obtain ⟨kS_30, vS_31, lvS_32, lhS_33, mvS_34⟩ := u
        try dsimp only at hw
        replace hP : va_P D vwCl (wL g q h z kS_30 vS_31 bS llS lvS_32 lhS_33 mvS_34 leM ceM fM kM vM wiM moM waM wkM wvM) H := hP.sub [6, 7, 8, 9, 0, 1, 2, 3, 4, 5] rfl
        replace hD : va_D (fun q : Nat => s.heap.size ≤ q) (wL g q h z kS_30 vS_31 bS llS lvS_32 lhS_33 mvS_34 leM ceM fM kM vM wiM moM waM wkM wvM) := hD.sub [6, 7, 8, 9, 0, 1, 2, 3, 4, 5] (by decide) rfl
        refine lv_aload_n hx hb dL_law_274 rfl (lv_at hl 2 rfl) ?_
        refine lv_aload_n hx hb dL_law_275 rfl (lv_at hl 0 rfl) ?_
        refine lv_iload_n hx hb dL_law_276 rfl (lv_at hl 3 rfl) ?_
        refine lv_iconst (v := 1) hx hb dL_law_277 (by decide) ?_
        refine lv_iadd hx hb dL_law_278 ?_
        refine va_sld hx hb hX hbl hbA hS hi_24 dL_law_279 ?_
        refine lv_i2l hx hb dL_law_280 rfl ?_
        refine lv_bipush (v := 32) hx hb dL_law_281 (by decide) ?_
        refine lv_lshl hx hb dL_law_283 rfl ?_
        refine lv_aload_n hx hb dL_law_284 rfl (lv_at hl 0 rfl) ?_
        refine lv_iload_n hx hb dL_law_285 rfl (lv_at hl 3 rfl) ?_
        refine lv_iconst (v := 2) hx hb dL_law_286 (by decide) ?_
        refine lv_iadd hx hb dL_law_287 ?_
        refine va_sld hx hb hX hbl hbA hS hi_25 dL_law_288 ?_
        refine lv_i2l hx hb dL_law_289 rfl ?_
        refine lv_ldc2 (v := 4294967295) hx hb hown (hts _ tcn_L_21) dL_law_290 ?_
        refine lv_land hx hb dL_law_293 ?_
        refine lv_lor hx hb dL_law_294 ?_
        refine lv_aload_n hx hb dL_law_295 rfl (lv_at hl 0 rfl) ?_
        refine lv_iload_n hx hb dL_law_296 rfl (lv_at hl 3 rfl) ?_
        refine lv_iconst (v := 3) hx hb dL_law_297 (by decide) ?_
        refine lv_iadd hx hb dL_law_298 ?_
        refine va_sld hx hb hX hbl hbA hS hi_26 dL_law_299 ?_
        refine lv_i2l hx hb dL_law_300 rfl ?_
        refine lv_bipush (v := 32) hx hb dL_law_301 (by decide) ?_
        refine lv_lshl hx hb dL_law_303 rfl ?_
        refine lv_aload_n hx hb dL_law_304 rfl (lv_at hl 0 rfl) ?_
        refine lv_iload_n hx hb dL_law_305 rfl (lv_at hl 3 rfl) ?_
        refine lv_iconst (v := 4) hx hb dL_law_306 (by decide) ?_
        refine lv_iadd hx hb dL_law_307 ?_
        refine va_sld hx hb hX hbl hbA hS hi_27 dL_law_308 ?_
        refine lv_i2l hx hb dL_law_309 rfl ?_
        refine lv_ldc2 (v := 4294967295) hx hb hown (hts _ tcn_L_21) dL_law_310 ?_
        refine lv_land hx hb dL_law_313 ?_
        refine lv_lor hx hb dL_law_314 ?_
        refine lv_aload_n hx hb dL_law_315 rfl (lv_at hl 0 rfl) ?_
        refine lv_iload_n hx hb dL_law_316 rfl (lv_at hl 3 rfl) ?_
        refine lv_iconst (v := 5) hx hb dL_law_317 (by decide) ?_
        refine lv_iadd hx hb dL_law_318 ?_
        refine va_sld hx hb hX hbl hbA hS hi_28 dL_law_319 ?_
        refine q_callVi (As := [.long (((xs (x3 + 1).toNatClampNeg).toInt64 <<< ((32 : Int32).toInt64 &&& 63)) ||| ((xs (x3 + 2).toNatClampNeg).toInt64 &&& 4294967295)), .long (((xs (x3 + 3).toNatClampNeg).toInt64 <<< ((32 : Int32).toInt64 &&& 63)) ||| ((xs (x3 + 4).toNatClampNeg).toInt64 &&& 4294967295)), .int (xs (x3 + 5).toNatClampNeg)]) (rest := [.int r_29]) (wr := (wS g q kS_30 vS_31 bS llS lvS_32 lhS_33 mvS_34)) [4, 5, 6, 7, 8, 9] [0, 1, 2, 3] ⟨hx, hb, hml, hown, hts⟩ (c_M_fill l D h z leM ceM fM kM vM wiM moM waM wkM wvM (((xs (x3 + 1).toNatClampNeg).toInt64 <<< ((32 : Int32).toInt64 &&& 63)) ||| ((xs (x3 + 2).toNatClampNeg).toInt64 &&& 4294967295)) (((xs (x3 + 3).toNatClampNeg).toInt64 <<< ((32 : Int32).toInt64 &&& 63)) ||| ((xs (x3 + 4).toNatClampNeg).toInt64 &&& 4294967295)) (xs (x3 + 5).toNatClampNeg) _ hw _) (cwV 3 hts gL_law_X1_fill rfl rfl rfl (by decide +kernel) ⟨Nat.le_of_ble_eq_true rfl, Nat.le_of_ble_eq_true rfl⟩) (va_recv hK hP (ci := 1) (q0 := 4) rfl rfl) (hK.sub (tys' := tM z) [3, 4, 5, 6, 7] rfl) hP hD hS hA rfl rfl rfl (by decide) (by decide) (by decide) rfl hl.1 rfl (Nat.le_of_ble_eq_true rfl) dL_law_320 ⟨Nat.le_of_ble_eq_true rfl, Nat.le_of_ble_eq_true rfl⟩ (fun r_35 u H locs hw hP hD hS => ?_)
        obtain ⟨ceM_36, fM_37, kM_38, vM_39, wiM_40, moM_41, waM_42, wkM_43, wvM_44⟩ := u
        try dsimp only at hw
        replace hP : va_P D vwCl (wL g q h z kS_30 vS_31 bS llS lvS_32 lhS_33 mvS_34 leM ceM_36 fM_37 kM_38 vM_39 wiM_40 moM_41 waM_42 wkM_43 wvM_44) H := hP
        replace hD : va_D (fun q : Nat => s.heap.size ≤ q) (wL g q h z kS_30 vS_31 bS llS lvS_32 lhS_33 mvS_34 leM ceM_36 fM_37 kM_38 vM_39 wiM_40 moM_41 waM_42 wkM_43 wvM_44) := hD
        refine lv_icmp_eq (tgt := 1057) hx hb dL_law_323 (by decide) (fun c_45 => ?_) (fun c_45 => ?_)
        · replace hw := hw.1 c_45
          refine lv_iinc (v := (x3 + 6)) (lv' := [(3, .int (x3 + 6)), (0, .ref b), (1, .ref (g 0)), (2, .ref (h 0))]) hx hb dL_law_1057 hl (k := 3) rfl rfl (by decide) rfl (fun ls hl => ?_)
          refine lv_goto (tgt := 28) hx hb dL_law_1060 (by decide) ?_
          exact ih (x3 + 6) kS_30 vS_31 bS lvS_32 lhS_33 mvS_34 ceM_36 fM_37 kM_38 vM_39 wiM_40 moM_41 waM_42 wkM_43 wvM_44 hw _ _ ls hP hD hS (lv_sub hl [1, 2, 3, 0] rfl)
        · replace hw := hw.2 c_45
          refine lv_iconst (v := 0) hx hb dL_law_326 (by decide) ?_
          exact False.elim hw
      · refine lv_tableIn (tgt := 328) (off := 285) hx hb dL_law_43 (by rw [ej]; decide) (by rw [ej]; decide) (by rw [ej]; rfl) (by decide) ?_
        replace hw := hw.2.2.1 ej
        refine lv_aload_n hx hb dL_law_328 rfl (lv_at hl 1 rfl) ?_
        refine lv_aload_n hx hb dL_law_329 rfl (lv_at hl 0 rfl) ?_
        refine lv_iload_n hx hb dL_law_330 rfl (lv_at hl 3 rfl) ?_
        refine lv_iconst (v := 1) hx hb dL_law_331 (by decide) ?_
        refine lv_iadd hx hb dL_law_332 ?_
        obtain ⟨hi_46, hw⟩ := hw
        refine va_sld hx hb hX hbl hbA hS hi_46 dL_law_333 ?_
        refine lv_i2l hx hb dL_law_334 rfl ?_
        refine lv_bipush (v := 32) hx hb dL_law_335 (by decide) ?_
        refine lv_lshl hx hb dL_law_337 rfl ?_
        refine lv_aload_n hx hb dL_law_338 rfl (lv_at hl 0 rfl) ?_
        refine lv_iload_n hx hb dL_law_339 rfl (lv_at hl 3 rfl) ?_
        refine lv_iconst (v := 2) hx hb dL_law_340 (by decide) ?_
        refine lv_iadd hx hb dL_law_341 ?_
        obtain ⟨hi_47, hw⟩ := hw
        refine va_sld hx hb hX hbl hbA hS hi_47 dL_law_342 ?_
        refine lv_i2l hx hb dL_law_343 rfl ?_
        refine lv_ldc2 (v := 4294967295) hx hb hown (hts _ tcn_L_21) dL_law_344 ?_
        refine lv_land hx hb dL_law_347 ?_
        refine lv_lor hx hb dL_law_348 ?_
        refine q_callVi (As := [.long (((xs (x3 + 1).toNatClampNeg).toInt64 <<< ((32 : Int32).toInt64 &&& 63)) ||| ((xs (x3 + 2).toNatClampNeg).toInt64 &&& 4294967295))]) (rest := []) (wr := (wM h z leM ceM fM kM vM wiM moM waM wkM wvM)) [0, 1, 2, 3] [4, 5, 6, 7, 8, 9] ⟨hx, hb, hml, hown, hts⟩ (c_S_remove l D g q kS vS bS llS lvS lhS mvS (((xs (x3 + 1).toNatClampNeg).toInt64 <<< ((32 : Int32).toInt64 &&& 63)) ||| ((xs (x3 + 2).toNatClampNeg).toInt64 &&& 4294967295)) _ hw _) (cwV 1 hts gL_law_X0_remove rfl rfl rfl (by decide +kernel) ⟨Nat.le_of_ble_eq_true rfl, Nat.le_of_ble_eq_true rfl⟩) (va_recv hK hP (ci := 0) (q0 := 0) rfl rfl) (hK.sub (tys' := tS q) [0, 1, 2] rfl) hP hD hS hA rfl rfl rfl (by decide) (by decide) (by decide) rfl hl.1 rfl (Nat.le_of_ble_eq_true rfl) dL_law_349 ⟨Nat.le_of_ble_eq_true rfl, Nat.le_of_ble_eq_true rfl⟩ (fun r_48 u H locs hw hP hD hS => ?_)
        obtain ⟨kS_49, vS_50, lvS_51, lhS_52, mvS_53⟩ := u
        try dsimp only at hw
        replace hP : va_P D vwCl (wL g q h z kS_49 vS_50 bS llS lvS_51 lhS_52 mvS_53 leM ceM fM kM vM wiM moM waM wkM wvM) H := hP.sub [6, 7, 8, 9, 0, 1, 2, 3, 4, 5] rfl
        replace hD : va_D (fun q : Nat => s.heap.size ≤ q) (wL g q h z kS_49 vS_50 bS llS lvS_51 lhS_52 mvS_53 leM ceM fM kM vM wiM moM waM wkM wvM) := hD.sub [6, 7, 8, 9, 0, 1, 2, 3, 4, 5] (by decide) rfl
        refine lv_aload_n hx hb dL_law_352 rfl (lv_at hl 2 rfl) ?_
        refine lv_aload_n hx hb dL_law_353 rfl (lv_at hl 0 rfl) ?_
        refine lv_iload_n hx hb dL_law_354 rfl (lv_at hl 3 rfl) ?_
        refine lv_iconst (v := 1) hx hb dL_law_355 (by decide) ?_
        refine lv_iadd hx hb dL_law_356 ?_
        refine va_sld hx hb hX hbl hbA hS hi_46 dL_law_357 ?_
        refine lv_i2l hx hb dL_law_358 rfl ?_
        refine lv_bipush (v := 32) hx hb dL_law_359 (by decide) ?_
        refine lv_lshl hx hb dL_law_361 rfl ?_
        refine lv_aload_n hx hb dL_law_362 rfl (lv_at hl 0 rfl) ?_
        refine lv_iload_n hx hb dL_law_363 rfl (lv_at hl 3 rfl) ?_
        refine lv_iconst (v := 2) hx hb dL_law_364 (by decide) ?_
        refine lv_iadd hx hb dL_law_365 ?_
        refine va_sld hx hb hX hbl hbA hS hi_47 dL_law_366 ?_
        refine lv_i2l hx hb dL_law_367 rfl ?_
        refine lv_ldc2 (v := 4294967295) hx hb hown (hts _ tcn_L_21) dL_law_368 ?_
        refine lv_land hx hb dL_law_371 ?_
        refine lv_lor hx hb dL_law_372 ?_
        refine q_callVi (As := [.long (((xs (x3 + 1).toNatClampNeg).toInt64 <<< ((32 : Int32).toInt64 &&& 63)) ||| ((xs (x3 + 2).toNatClampNeg).toInt64 &&& 4294967295))]) (rest := [.int r_48]) (wr := (wS g q kS_49 vS_50 bS llS lvS_51 lhS_52 mvS_53)) [4, 5, 6, 7, 8, 9] [0, 1, 2, 3] ⟨hx, hb, hml, hown, hts⟩ (c_M_remove l D h z leM ceM fM kM vM wiM moM waM wkM wvM (((xs (x3 + 1).toNatClampNeg).toInt64 <<< ((32 : Int32).toInt64 &&& 63)) ||| ((xs (x3 + 2).toNatClampNeg).toInt64 &&& 4294967295)) _ hw _) (cwV 1 hts gL_law_X1_remove rfl rfl rfl (by decide +kernel) ⟨Nat.le_of_ble_eq_true rfl, Nat.le_of_ble_eq_true rfl⟩) (va_recv hK hP (ci := 1) (q0 := 4) rfl rfl) (hK.sub (tys' := tM z) [3, 4, 5, 6, 7] rfl) hP hD hS hA rfl rfl rfl (by decide) (by decide) (by decide) rfl hl.1 rfl (Nat.le_of_ble_eq_true rfl) dL_law_373 ⟨Nat.le_of_ble_eq_true rfl, Nat.le_of_ble_eq_true rfl⟩ (fun r_54 u H locs hw hP hD hS => ?_)
        obtain ⟨ceM_55, fM_56, kM_57, vM_58, wiM_59, moM_60, waM_61, wkM_62, wvM_63⟩ := u
        try dsimp only at hw
        replace hP : va_P D vwCl (wL g q h z kS_49 vS_50 bS llS lvS_51 lhS_52 mvS_53 leM ceM_55 fM_56 kM_57 vM_58 wiM_59 moM_60 waM_61 wkM_62 wvM_63) H := hP
        replace hD : va_D (fun q : Nat => s.heap.size ≤ q) (wL g q h z kS_49 vS_50 bS llS lvS_51 lhS_52 mvS_53 leM ceM_55 fM_56 kM_57 vM_58 wiM_59 moM_60 waM_61 wkM_62 wvM_63) := hD
        refine lv_icmp_eq (tgt := 1057) hx hb dL_law_376 (by decide) (fun c_64 => ?_) (fun c_64 => ?_)
        · replace hw := hw.1 c_64
          refine lv_iinc (v := (x3 + 6)) (lv' := [(3, .int (x3 + 6)), (0, .ref b), (1, .ref (g 0)), (2, .ref (h 0))]) hx hb dL_law_1057 hl (k := 3) rfl rfl (by decide) rfl (fun ls hl => ?_)
          refine lv_goto (tgt := 28) hx hb dL_law_1060 (by decide) ?_
          exact ih (x3 + 6) kS_49 vS_50 bS lvS_51 lhS_52 mvS_53 ceM_55 fM_56 kM_57 vM_58 wiM_59 moM_60 waM_61 wkM_62 wvM_63 hw _ _ ls hP hD hS (lv_sub hl [1, 2, 3, 0] rfl)
        · replace hw := hw.2 c_64
          refine lv_iconst (v := 0) hx hb dL_law_379 (by decide) ?_
          exact False.elim hw
      · refine lv_tableIn (tgt := 381) (off := 338) hx hb dL_law_43 (by rw [ej]; decide) (by rw [ej]; decide) (by rw [ej]; rfl) (by decide) ?_
        replace hw := hw.2.2.2.1 ej
        refine lv_aload_n hx hb dL_law_381 rfl (lv_at hl 1 rfl) ?_
        refine lv_aload_n hx hb dL_law_382 rfl (lv_at hl 0 rfl) ?_
        refine lv_iload_n hx hb dL_law_383 rfl (lv_at hl 3 rfl) ?_
        refine lv_iconst (v := 1) hx hb dL_law_384 (by decide) ?_
        refine lv_iadd hx hb dL_law_385 ?_
        obtain ⟨hi_65, hw⟩ := hw
        refine va_sld hx hb hX hbl hbA hS hi_65 dL_law_386 ?_
        refine lv_i2l hx hb dL_law_387 rfl ?_
        refine lv_bipush (v := 32) hx hb dL_law_388 (by decide) ?_
        refine lv_lshl hx hb dL_law_390 rfl ?_
        refine lv_aload_n hx hb dL_law_391 rfl (lv_at hl 0 rfl) ?_
        refine lv_iload_n hx hb dL_law_392 rfl (lv_at hl 3 rfl) ?_
        refine lv_iconst (v := 2) hx hb dL_law_393 (by decide) ?_
        refine lv_iadd hx hb dL_law_394 ?_
        obtain ⟨hi_66, hw⟩ := hw
        refine va_sld hx hb hX hbl hbA hS hi_66 dL_law_395 ?_
        refine lv_i2l hx hb dL_law_396 rfl ?_
        refine lv_ldc2 (v := 4294967295) hx hb hown (hts _ tcn_L_21) dL_law_397 ?_
        refine lv_land hx hb dL_law_400 ?_
        refine lv_lor hx hb dL_law_401 ?_
        refine lv_aload_n hx hb dL_law_402 rfl (lv_at hl 0 rfl) ?_
        refine lv_iload_n hx hb dL_law_403 rfl (lv_at hl 3 rfl) ?_
        refine lv_iconst (v := 3) hx hb dL_law_404 (by decide) ?_
        refine lv_iadd hx hb dL_law_405 ?_
        obtain ⟨hi_67, hw⟩ := hw
        refine va_sld hx hb hX hbl hbA hS hi_67 dL_law_406 ?_
        refine q_callVi (As := [.long (((xs (x3 + 1).toNatClampNeg).toInt64 <<< ((32 : Int32).toInt64 &&& 63)) ||| ((xs (x3 + 2).toNatClampNeg).toInt64 &&& 4294967295)), .int (xs (x3 + 3).toNatClampNeg)]) (rest := []) (wr := (wM h z leM ceM fM kM vM wiM moM waM wkM wvM)) [0, 1, 2, 3] [4, 5, 6, 7, 8, 9] ⟨hx, hb, hml, hown, hts⟩ (c_S_drop l D g q kS vS bS llS lvS lhS mvS (((xs (x3 + 1).toNatClampNeg).toInt64 <<< ((32 : Int32).toInt64 &&& 63)) ||| ((xs (x3 + 2).toNatClampNeg).toInt64 &&& 4294967295)) (xs (x3 + 3).toNatClampNeg) _ hw _) (cwV 2 hts gL_law_X0_drop rfl rfl rfl (by decide +kernel) ⟨Nat.le_of_ble_eq_true rfl, Nat.le_of_ble_eq_true rfl⟩) (va_recv hK hP (ci := 0) (q0 := 0) rfl rfl) (hK.sub (tys' := tS q) [0, 1, 2] rfl) hP hD hS hA rfl rfl rfl (by decide) (by decide) (by decide) rfl hl.1 rfl (Nat.le_of_ble_eq_true rfl) dL_law_407 ⟨Nat.le_of_ble_eq_true rfl, Nat.le_of_ble_eq_true rfl⟩ (fun r_68 u H locs hw hP hD hS => ?_)
        obtain ⟨kS_69, vS_70, lvS_71, lhS_72, mvS_73⟩ := u
        try dsimp only at hw
        replace hP : va_P D vwCl (wL g q h z kS_69 vS_70 bS llS lvS_71 lhS_72 mvS_73 leM ceM fM kM vM wiM moM waM wkM wvM) H := hP.sub [6, 7, 8, 9, 0, 1, 2, 3, 4, 5] rfl
        replace hD : va_D (fun q : Nat => s.heap.size ≤ q) (wL g q h z kS_69 vS_70 bS llS lvS_71 lhS_72 mvS_73 leM ceM fM kM vM wiM moM waM wkM wvM) := hD.sub [6, 7, 8, 9, 0, 1, 2, 3, 4, 5] (by decide) rfl
        refine lv_aload_n hx hb dL_law_410 rfl (lv_at hl 2 rfl) ?_
        refine lv_aload_n hx hb dL_law_411 rfl (lv_at hl 0 rfl) ?_
        refine lv_iload_n hx hb dL_law_412 rfl (lv_at hl 3 rfl) ?_
        refine lv_iconst (v := 1) hx hb dL_law_413 (by decide) ?_
        refine lv_iadd hx hb dL_law_414 ?_
        refine va_sld hx hb hX hbl hbA hS hi_65 dL_law_415 ?_
        refine lv_i2l hx hb dL_law_416 rfl ?_
        refine lv_bipush (v := 32) hx hb dL_law_417 (by decide) ?_
        refine lv_lshl hx hb dL_law_419 rfl ?_
        refine lv_aload_n hx hb dL_law_420 rfl (lv_at hl 0 rfl) ?_
        refine lv_iload_n hx hb dL_law_421 rfl (lv_at hl 3 rfl) ?_
        refine lv_iconst (v := 2) hx hb dL_law_422 (by decide) ?_
        refine lv_iadd hx hb dL_law_423 ?_
        refine va_sld hx hb hX hbl hbA hS hi_66 dL_law_424 ?_
        refine lv_i2l hx hb dL_law_425 rfl ?_
        refine lv_ldc2 (v := 4294967295) hx hb hown (hts _ tcn_L_21) dL_law_426 ?_
        refine lv_land hx hb dL_law_429 ?_
        refine lv_lor hx hb dL_law_430 ?_
        refine lv_aload_n hx hb dL_law_431 rfl (lv_at hl 0 rfl) ?_
        refine lv_iload_n hx hb dL_law_432 rfl (lv_at hl 3 rfl) ?_
        refine lv_iconst (v := 3) hx hb dL_law_433 (by decide) ?_
        refine lv_iadd hx hb dL_law_434 ?_
        refine va_sld hx hb hX hbl hbA hS hi_67 dL_law_435 ?_
        refine q_callVi (As := [.long (((xs (x3 + 1).toNatClampNeg).toInt64 <<< ((32 : Int32).toInt64 &&& 63)) ||| ((xs (x3 + 2).toNatClampNeg).toInt64 &&& 4294967295)), .int (xs (x3 + 3).toNatClampNeg)]) (rest := [.int r_68]) (wr := (wS g q kS_69 vS_70 bS llS lvS_71 lhS_72 mvS_73)) [4, 5, 6, 7, 8, 9] [0, 1, 2, 3] ⟨hx, hb, hml, hown, hts⟩ (c_M_drop l D h z leM ceM fM kM vM wiM moM waM wkM wvM (((xs (x3 + 1).toNatClampNeg).toInt64 <<< ((32 : Int32).toInt64 &&& 63)) ||| ((xs (x3 + 2).toNatClampNeg).toInt64 &&& 4294967295)) (xs (x3 + 3).toNatClampNeg) _ hw _) (cwV 2 hts gL_law_X1_drop rfl rfl rfl (by decide +kernel) ⟨Nat.le_of_ble_eq_true rfl, Nat.le_of_ble_eq_true rfl⟩) (va_recv hK hP (ci := 1) (q0 := 4) rfl rfl) (hK.sub (tys' := tM z) [3, 4, 5, 6, 7] rfl) hP hD hS hA rfl rfl rfl (by decide) (by decide) (by decide) rfl hl.1 rfl (Nat.le_of_ble_eq_true rfl) dL_law_436 ⟨Nat.le_of_ble_eq_true rfl, Nat.le_of_ble_eq_true rfl⟩ (fun r_74 u H locs hw hP hD hS => ?_)
        obtain ⟨ceM_75, fM_76, kM_77, vM_78, wiM_79, moM_80, waM_81, wkM_82, wvM_83⟩ := u
        try dsimp only at hw
        replace hP : va_P D vwCl (wL g q h z kS_69 vS_70 bS llS lvS_71 lhS_72 mvS_73 leM ceM_75 fM_76 kM_77 vM_78 wiM_79 moM_80 waM_81 wkM_82 wvM_83) H := hP
        replace hD : va_D (fun q : Nat => s.heap.size ≤ q) (wL g q h z kS_69 vS_70 bS llS lvS_71 lhS_72 mvS_73 leM ceM_75 fM_76 kM_77 vM_78 wiM_79 moM_80 waM_81 wkM_82 wvM_83) := hD
        refine lv_icmp_eq (tgt := 1057) hx hb dL_law_439 (by decide) (fun c_84 => ?_) (fun c_84 => ?_)
        · replace hw := hw.1 c_84
          refine lv_iinc (v := (x3 + 6)) (lv' := [(3, .int (x3 + 6)), (0, .ref b), (1, .ref (g 0)), (2, .ref (h 0))]) hx hb dL_law_1057 hl (k := 3) rfl rfl (by decide) rfl (fun ls hl => ?_)
          refine lv_goto (tgt := 28) hx hb dL_law_1060 (by decide) ?_
          exact ih (x3 + 6) kS_69 vS_70 bS lvS_71 lhS_72 mvS_73 ceM_75 fM_76 kM_77 vM_78 wiM_79 moM_80 waM_81 wkM_82 wvM_83 hw _ _ ls hP hD hS (lv_sub hl [1, 2, 3, 0] rfl)
        · replace hw := hw.2 c_84
          refine lv_iconst (v := 0) hx hb dL_law_442 (by decide) ?_
          exact False.elim hw
      · refine lv_tableIn (tgt := 444) (off := 401) hx hb dL_law_43 (by rw [ej]; decide) (by rw [ej]; decide) (by rw [ej]; rfl) (by decide) ?_
        replace hw := hw.2.2.2.2.1 ej
        refine lv_aload_n hx hb dL_law_444 rfl (lv_at hl 1 rfl) ?_
        refine lv_aload_n hx hb dL_law_445 rfl (lv_at hl 0 rfl) ?_
        refine lv_iload_n hx hb dL_law_446 rfl (lv_at hl 3 rfl) ?_
        refine lv_iconst (v := 1) hx hb dL_law_447 (by decide) ?_
        refine lv_iadd hx hb dL_law_448 ?_
        obtain ⟨hi_85, hw⟩ := hw
        refine va_sld hx hb hX hbl hbA hS hi_85 dL_law_449 ?_
        refine lv_i2l hx hb dL_law_450 rfl ?_
        refine lv_bipush (v := 32) hx hb dL_law_451 (by decide) ?_
        refine lv_lshl hx hb dL_law_453 rfl ?_
        refine lv_aload_n hx hb dL_law_454 rfl (lv_at hl 0 rfl) ?_
        refine lv_iload_n hx hb dL_law_455 rfl (lv_at hl 3 rfl) ?_
        refine lv_iconst (v := 2) hx hb dL_law_456 (by decide) ?_
        refine lv_iadd hx hb dL_law_457 ?_
        obtain ⟨hi_86, hw⟩ := hw
        refine va_sld hx hb hX hbl hbA hS hi_86 dL_law_458 ?_
        refine lv_i2l hx hb dL_law_459 rfl ?_
        refine lv_ldc2 (v := 4294967295) hx hb hown (hts _ tcn_L_21) dL_law_460 ?_
        refine lv_land hx hb dL_law_463 ?_
        refine lv_lor hx hb dL_law_464 ?_
        refine q_callVi (As := [.long (((xs (x3 + 1).toNatClampNeg).toInt64 <<< ((32 : Int32).toInt64 &&& 63)) ||| ((xs (x3 + 2).toNatClampNeg).toInt64 &&& 4294967295))]) (rest := []) (wr := (wM h z leM ceM fM kM vM wiM moM waM wkM wvM)) [0, 1, 2, 3] [4, 5, 6, 7, 8, 9] ⟨hx, hb, hml, hown, hts⟩ (c_S_has l D g q kS vS bS llS lvS lhS mvS (((xs (x3 + 1).toNatClampNeg).toInt64 <<< ((32 : Int32).toInt64 &&& 63)) ||| ((xs (x3 + 2).toNatClampNeg).toInt64 &&& 4294967295)) _ hw _) (cwV 1 hts gL_law_X0_has rfl rfl rfl (by decide +kernel) ⟨Nat.le_of_ble_eq_true rfl, Nat.le_of_ble_eq_true rfl⟩) (va_recv hK hP (ci := 0) (q0 := 0) rfl rfl) (hK.sub (tys' := tS q) [0, 1, 2] rfl) hP hD hS hA rfl rfl rfl (by decide) (by decide) (by decide) rfl hl.1 rfl (Nat.le_of_ble_eq_true rfl) dL_law_465 ⟨Nat.le_of_ble_eq_true rfl, Nat.le_of_ble_eq_true rfl⟩ (fun r_87 u H locs hw hP hD hS => ?_)
        try dsimp only at hw
        replace hP : va_P D vwCl (wL g q h z kS vS bS llS lvS lhS mvS leM ceM fM kM vM wiM moM waM wkM wvM) H := hP.sub [6, 7, 8, 9, 0, 1, 2, 3, 4, 5] rfl
        replace hD : va_D (fun q : Nat => s.heap.size ≤ q) (wL g q h z kS vS bS llS lvS lhS mvS leM ceM fM kM vM wiM moM waM wkM wvM) := hD.sub [6, 7, 8, 9, 0, 1, 2, 3, 4, 5] (by decide) rfl
        refine lv_aload_n hx hb dL_law_468 rfl (lv_at hl 2 rfl) ?_
        refine lv_aload_n hx hb dL_law_469 rfl (lv_at hl 0 rfl) ?_
        refine lv_iload_n hx hb dL_law_470 rfl (lv_at hl 3 rfl) ?_
        refine lv_iconst (v := 1) hx hb dL_law_471 (by decide) ?_
        refine lv_iadd hx hb dL_law_472 ?_
        refine va_sld hx hb hX hbl hbA hS hi_85 dL_law_473 ?_
        refine lv_i2l hx hb dL_law_474 rfl ?_
        refine lv_bipush (v := 32) hx hb dL_law_475 (by decide) ?_
        refine lv_lshl hx hb dL_law_477 rfl ?_
        refine lv_aload_n hx hb dL_law_478 rfl (lv_at hl 0 rfl) ?_
        refine lv_iload_n hx hb dL_law_479 rfl (lv_at hl 3 rfl) ?_
        refine lv_iconst (v := 2) hx hb dL_law_480 (by decide) ?_
        refine lv_iadd hx hb dL_law_481 ?_
        refine va_sld hx hb hX hbl hbA hS hi_86 dL_law_482 ?_
        refine lv_i2l hx hb dL_law_483 rfl ?_
        refine lv_ldc2 (v := 4294967295) hx hb hown (hts _ tcn_L_21) dL_law_484 ?_
        refine lv_land hx hb dL_law_487 ?_
        refine lv_lor hx hb dL_law_488 ?_
        refine q_callVi (As := [.long (((xs (x3 + 1).toNatClampNeg).toInt64 <<< ((32 : Int32).toInt64 &&& 63)) ||| ((xs (x3 + 2).toNatClampNeg).toInt64 &&& 4294967295))]) (rest := [.int r_87]) (wr := (wS g q kS vS bS llS lvS lhS mvS)) [4, 5, 6, 7, 8, 9] [0, 1, 2, 3] ⟨hx, hb, hml, hown, hts⟩ (c_M_has l D h z leM ceM fM kM vM wiM moM waM wkM wvM (((xs (x3 + 1).toNatClampNeg).toInt64 <<< ((32 : Int32).toInt64 &&& 63)) ||| ((xs (x3 + 2).toNatClampNeg).toInt64 &&& 4294967295)) _ hw _) (cwV 1 hts gL_law_X1_has rfl rfl rfl (by decide +kernel) ⟨Nat.le_of_ble_eq_true rfl, Nat.le_of_ble_eq_true rfl⟩) (va_recv hK hP (ci := 1) (q0 := 4) rfl rfl) (hK.sub (tys' := tM z) [3, 4, 5, 6, 7] rfl) hP hD hS hA rfl rfl rfl (by decide) (by decide) (by decide) rfl hl.1 rfl (Nat.le_of_ble_eq_true rfl) dL_law_489 ⟨Nat.le_of_ble_eq_true rfl, Nat.le_of_ble_eq_true rfl⟩ (fun r_88 u H locs hw hP hD hS => ?_)
        try dsimp only at hw
        replace hP : va_P D vwCl (wL g q h z kS vS bS llS lvS lhS mvS leM ceM fM kM vM wiM moM waM wkM wvM) H := hP
        replace hD : va_D (fun q : Nat => s.heap.size ≤ q) (wL g q h z kS vS bS llS lvS lhS mvS leM ceM fM kM vM wiM moM waM wkM wvM) := hD
        refine lv_icmp_eq (tgt := 1057) hx hb dL_law_492 (by decide) (fun c_89 => ?_) (fun c_89 => ?_)
        · replace hw := hw.1 c_89
          refine lv_iinc (v := (x3 + 6)) (lv' := [(3, .int (x3 + 6)), (0, .ref b), (1, .ref (g 0)), (2, .ref (h 0))]) hx hb dL_law_1057 hl (k := 3) rfl rfl (by decide) rfl (fun ls hl => ?_)
          refine lv_goto (tgt := 28) hx hb dL_law_1060 (by decide) ?_
          exact ih (x3 + 6) kS vS bS lvS lhS mvS ceM fM kM vM wiM moM waM wkM wvM hw _ _ ls hP hD hS (lv_sub hl [1, 2, 3, 0] rfl)
        · replace hw := hw.2 c_89
          refine lv_iconst (v := 0) hx hb dL_law_495 (by decide) ?_
          exact False.elim hw
      · refine lv_tableIn (tgt := 497) (off := 454) hx hb dL_law_43 (by rw [ej]; decide) (by rw [ej]; decide) (by rw [ej]; rfl) (by decide) ?_
        replace hw := hw.2.2.2.2.2.1 ej
        refine lv_aload_n hx hb dL_law_497 rfl (lv_at hl 1 rfl) ?_
        refine lv_aload_n hx hb dL_law_498 rfl (lv_at hl 0 rfl) ?_
        refine lv_iload_n hx hb dL_law_499 rfl (lv_at hl 3 rfl) ?_
        refine lv_iconst (v := 1) hx hb dL_law_500 (by decide) ?_
        refine lv_iadd hx hb dL_law_501 ?_
        obtain ⟨hi_90, hw⟩ := hw
        refine va_sld hx hb hX hbl hbA hS hi_90 dL_law_502 ?_
        refine lv_i2l hx hb dL_law_503 rfl ?_
        refine lv_bipush (v := 32) hx hb dL_law_504 (by decide) ?_
        refine lv_lshl hx hb dL_law_506 rfl ?_
        refine lv_aload_n hx hb dL_law_507 rfl (lv_at hl 0 rfl) ?_
        refine lv_iload_n hx hb dL_law_508 rfl (lv_at hl 3 rfl) ?_
        refine lv_iconst (v := 2) hx hb dL_law_509 (by decide) ?_
        refine lv_iadd hx hb dL_law_510 ?_
        obtain ⟨hi_91, hw⟩ := hw
        refine va_sld hx hb hX hbl hbA hS hi_91 dL_law_511 ?_
        refine lv_i2l hx hb dL_law_512 rfl ?_
        refine lv_ldc2 (v := 4294967295) hx hb hown (hts _ tcn_L_21) dL_law_513 ?_
        refine lv_land hx hb dL_law_516 ?_
        refine lv_lor hx hb dL_law_517 ?_
        refine q_callVl (As := [.long (((xs (x3 + 1).toNatClampNeg).toInt64 <<< ((32 : Int32).toInt64 &&& 63)) ||| ((xs (x3 + 2).toNatClampNeg).toInt64 &&& 4294967295))]) (rest := []) (wr := (wM h z leM ceM fM kM vM wiM moM waM wkM wvM)) [0, 1, 2, 3] [4, 5, 6, 7, 8, 9] ⟨hx, hb, hml, hown, hts⟩ (c_S_get l D g q kS vS bS llS lvS lhS mvS (((xs (x3 + 1).toNatClampNeg).toInt64 <<< ((32 : Int32).toInt64 &&& 63)) ||| ((xs (x3 + 2).toNatClampNeg).toInt64 &&& 4294967295)) _ hw _) (cwV 1 hts gL_law_X0_get rfl rfl rfl (by decide +kernel) ⟨Nat.le_of_ble_eq_true rfl, Nat.le_of_ble_eq_true rfl⟩) (va_recv hK hP (ci := 0) (q0 := 0) rfl rfl) (hK.sub (tys' := tS q) [0, 1, 2] rfl) hP hD hS hA rfl rfl rfl (by decide) (by decide) (by decide) rfl hl.1 rfl (Nat.le_of_ble_eq_true rfl) dL_law_518 ⟨Nat.le_of_ble_eq_true rfl, Nat.le_of_ble_eq_true rfl⟩ (fun r_92 u H locs hw hP hD hS => ?_)
        try dsimp only at hw
        replace hP : va_P D vwCl (wL g q h z kS vS bS llS lvS lhS mvS leM ceM fM kM vM wiM moM waM wkM wvM) H := hP.sub [6, 7, 8, 9, 0, 1, 2, 3, 4, 5] rfl
        replace hD : va_D (fun q : Nat => s.heap.size ≤ q) (wL g q h z kS vS bS llS lvS lhS mvS leM ceM fM kM vM wiM moM waM wkM wvM) := hD.sub [6, 7, 8, 9, 0, 1, 2, 3, 4, 5] (by decide) rfl
        refine lv_aload_n hx hb dL_law_521 rfl (lv_at hl 2 rfl) ?_
        refine lv_aload_n hx hb dL_law_522 rfl (lv_at hl 0 rfl) ?_
        refine lv_iload_n hx hb dL_law_523 rfl (lv_at hl 3 rfl) ?_
        refine lv_iconst (v := 1) hx hb dL_law_524 (by decide) ?_
        refine lv_iadd hx hb dL_law_525 ?_
        refine va_sld hx hb hX hbl hbA hS hi_90 dL_law_526 ?_
        refine lv_i2l hx hb dL_law_527 rfl ?_
        refine lv_bipush (v := 32) hx hb dL_law_528 (by decide) ?_
        refine lv_lshl hx hb dL_law_530 rfl ?_
        refine lv_aload_n hx hb dL_law_531 rfl (lv_at hl 0 rfl) ?_
        refine lv_iload_n hx hb dL_law_532 rfl (lv_at hl 3 rfl) ?_
        refine lv_iconst (v := 2) hx hb dL_law_533 (by decide) ?_
        refine lv_iadd hx hb dL_law_534 ?_
        refine va_sld hx hb hX hbl hbA hS hi_91 dL_law_535 ?_
        refine lv_i2l hx hb dL_law_536 rfl ?_
        refine lv_ldc2 (v := 4294967295) hx hb hown (hts _ tcn_L_21) dL_law_537 ?_
        refine lv_land hx hb dL_law_540 ?_
        refine lv_lor hx hb dL_law_541 ?_
        refine q_callVl (As := [.long (((xs (x3 + 1).toNatClampNeg).toInt64 <<< ((32 : Int32).toInt64 &&& 63)) ||| ((xs (x3 + 2).toNatClampNeg).toInt64 &&& 4294967295))]) (rest := [.long r_92]) (wr := (wS g q kS vS bS llS lvS lhS mvS)) [4, 5, 6, 7, 8, 9] [0, 1, 2, 3] ⟨hx, hb, hml, hown, hts⟩ (c_M_get l D h z leM ceM fM kM vM wiM moM waM wkM wvM (((xs (x3 + 1).toNatClampNeg).toInt64 <<< ((32 : Int32).toInt64 &&& 63)) ||| ((xs (x3 + 2).toNatClampNeg).toInt64 &&& 4294967295)) _ hw _) (cwV 1 hts gL_law_X1_get rfl rfl rfl (by decide +kernel) ⟨Nat.le_of_ble_eq_true rfl, Nat.le_of_ble_eq_true rfl⟩) (va_recv hK hP (ci := 1) (q0 := 4) rfl rfl) (hK.sub (tys' := tM z) [3, 4, 5, 6, 7] rfl) hP hD hS hA rfl rfl rfl (by decide) (by decide) (by decide) rfl hl.1 rfl (Nat.le_of_ble_eq_true rfl) dL_law_542 ⟨Nat.le_of_ble_eq_true rfl, Nat.le_of_ble_eq_true rfl⟩ (fun r_93 u H locs hw hP hD hS => ?_)
        try dsimp only at hw
        replace hP : va_P D vwCl (wL g q h z kS vS bS llS lvS lhS mvS leM ceM fM kM vM wiM moM waM wkM wvM) H := hP
        replace hD : va_D (fun q : Nat => s.heap.size ≤ q) (wL g q h z kS vS bS llS lvS lhS mvS leM ceM fM kM vM wiM moM waM wkM wvM) := hD
        refine q_lc_eq (tgt := 1057) hx hb dL_law_545 dL_law_546 (by decide) (fun c_94 => ?_) (fun c_94 => ?_)
        · replace hw := hw.1 c_94
          refine lv_iinc (v := (x3 + 6)) (lv' := [(3, .int (x3 + 6)), (0, .ref b), (1, .ref (g 0)), (2, .ref (h 0))]) hx hb dL_law_1057 hl (k := 3) rfl rfl (by decide) rfl (fun ls hl => ?_)
          refine lv_goto (tgt := 28) hx hb dL_law_1060 (by decide) ?_
          exact ih (x3 + 6) kS vS bS lvS lhS mvS ceM fM kM vM wiM moM waM wkM wvM hw _ _ ls hP hD hS (lv_sub hl [1, 2, 3, 0] rfl)
        · replace hw := hw.2 c_94
          refine lv_iconst (v := 0) hx hb dL_law_549 (by decide) ?_
          exact False.elim hw
      · refine lv_tableIn (tgt := 551) (off := 508) hx hb dL_law_43 (by rw [ej]; decide) (by rw [ej]; decide) (by rw [ej]; rfl) (by decide) ?_
        replace hw := hw.2.2.2.2.2.2.1 ej
        refine lv_aload_n hx hb dL_law_551 rfl (lv_at hl 1 rfl) ?_
        refine lv_aload_n hx hb dL_law_552 rfl (lv_at hl 0 rfl) ?_
        refine lv_iload_n hx hb dL_law_553 rfl (lv_at hl 3 rfl) ?_
        refine lv_iconst (v := 1) hx hb dL_law_554 (by decide) ?_
        refine lv_iadd hx hb dL_law_555 ?_
        obtain ⟨hi_95, hw⟩ := hw
        refine va_sld hx hb hX hbl hbA hS hi_95 dL_law_556 ?_
        refine lv_i2l hx hb dL_law_557 rfl ?_
        refine lv_bipush (v := 32) hx hb dL_law_558 (by decide) ?_
        refine lv_lshl hx hb dL_law_560 rfl ?_
        refine lv_aload_n hx hb dL_law_561 rfl (lv_at hl 0 rfl) ?_
        refine lv_iload_n hx hb dL_law_562 rfl (lv_at hl 3 rfl) ?_
        refine lv_iconst (v := 2) hx hb dL_law_563 (by decide) ?_
        refine lv_iadd hx hb dL_law_564 ?_
        obtain ⟨hi_96, hw⟩ := hw
        refine va_sld hx hb hX hbl hbA hS hi_96 dL_law_565 ?_
        refine lv_i2l hx hb dL_law_566 rfl ?_
        refine lv_ldc2 (v := 4294967295) hx hb hown (hts _ tcn_L_21) dL_law_567 ?_
        refine lv_land hx hb dL_law_570 ?_
        refine lv_lor hx hb dL_law_571 ?_
        refine q_callVl (As := [.long (((xs (x3 + 1).toNatClampNeg).toInt64 <<< ((32 : Int32).toInt64 &&& 63)) ||| ((xs (x3 + 2).toNatClampNeg).toInt64 &&& 4294967295))]) (rest := []) (wr := (wM h z leM ceM fM kM vM wiM moM waM wkM wvM)) [0, 1, 2, 3] [4, 5, 6, 7, 8, 9] ⟨hx, hb, hml, hown, hts⟩ (c_S_floor l D g q kS vS bS llS lvS lhS mvS (((xs (x3 + 1).toNatClampNeg).toInt64 <<< ((32 : Int32).toInt64 &&& 63)) ||| ((xs (x3 + 2).toNatClampNeg).toInt64 &&& 4294967295)) _ hw _) (cwV 1 hts gL_law_X0_floor rfl rfl rfl (by decide +kernel) ⟨Nat.le_of_ble_eq_true rfl, Nat.le_of_ble_eq_true rfl⟩) (va_recv hK hP (ci := 0) (q0 := 0) rfl rfl) (hK.sub (tys' := tS q) [0, 1, 2] rfl) hP hD hS hA rfl rfl rfl (by decide) (by decide) (by decide) rfl hl.1 rfl (Nat.le_of_ble_eq_true rfl) dL_law_572 ⟨Nat.le_of_ble_eq_true rfl, Nat.le_of_ble_eq_true rfl⟩ (fun r_97 u H locs hw hP hD hS => ?_)
        try dsimp only at hw
        replace hP : va_P D vwCl (wL g q h z kS vS bS llS lvS lhS mvS leM ceM fM kM vM wiM moM waM wkM wvM) H := hP.sub [6, 7, 8, 9, 0, 1, 2, 3, 4, 5] rfl
        replace hD : va_D (fun q : Nat => s.heap.size ≤ q) (wL g q h z kS vS bS llS lvS lhS mvS leM ceM fM kM vM wiM moM waM wkM wvM) := hD.sub [6, 7, 8, 9, 0, 1, 2, 3, 4, 5] (by decide) rfl
        refine lv_aload_n hx hb dL_law_575 rfl (lv_at hl 2 rfl) ?_
        refine lv_aload_n hx hb dL_law_576 rfl (lv_at hl 0 rfl) ?_
        refine lv_iload_n hx hb dL_law_577 rfl (lv_at hl 3 rfl) ?_
        refine lv_iconst (v := 1) hx hb dL_law_578 (by decide) ?_
        refine lv_iadd hx hb dL_law_579 ?_
        refine va_sld hx hb hX hbl hbA hS hi_95 dL_law_580 ?_
        refine lv_i2l hx hb dL_law_581 rfl ?_
        refine lv_bipush (v := 32) hx hb dL_law_582 (by decide) ?_
        refine lv_lshl hx hb dL_law_584 rfl ?_
        refine lv_aload_n hx hb dL_law_585 rfl (lv_at hl 0 rfl) ?_
        refine lv_iload_n hx hb dL_law_586 rfl (lv_at hl 3 rfl) ?_
        refine lv_iconst (v := 2) hx hb dL_law_587 (by decide) ?_
        refine lv_iadd hx hb dL_law_588 ?_
        refine va_sld hx hb hX hbl hbA hS hi_96 dL_law_589 ?_
        refine lv_i2l hx hb dL_law_590 rfl ?_
        refine lv_ldc2 (v := 4294967295) hx hb hown (hts _ tcn_L_21) dL_law_591 ?_
        refine lv_land hx hb dL_law_594 ?_
        refine lv_lor hx hb dL_law_595 ?_
        refine q_callVl (As := [.long (((xs (x3 + 1).toNatClampNeg).toInt64 <<< ((32 : Int32).toInt64 &&& 63)) ||| ((xs (x3 + 2).toNatClampNeg).toInt64 &&& 4294967295))]) (rest := [.long r_97]) (wr := (wS g q kS vS bS llS lvS lhS mvS)) [4, 5, 6, 7, 8, 9] [0, 1, 2, 3] ⟨hx, hb, hml, hown, hts⟩ (c_M_floor l D h z leM ceM fM kM vM wiM moM waM wkM wvM (((xs (x3 + 1).toNatClampNeg).toInt64 <<< ((32 : Int32).toInt64 &&& 63)) ||| ((xs (x3 + 2).toNatClampNeg).toInt64 &&& 4294967295)) _ hw _) (cwV 1 hts gL_law_X1_floor rfl rfl rfl (by decide +kernel) ⟨Nat.le_of_ble_eq_true rfl, Nat.le_of_ble_eq_true rfl⟩) (va_recv hK hP (ci := 1) (q0 := 4) rfl rfl) (hK.sub (tys' := tM z) [3, 4, 5, 6, 7] rfl) hP hD hS hA rfl rfl rfl (by decide) (by decide) (by decide) rfl hl.1 rfl (Nat.le_of_ble_eq_true rfl) dL_law_596 ⟨Nat.le_of_ble_eq_true rfl, Nat.le_of_ble_eq_true rfl⟩ (fun r_98 u H locs hw hP hD hS => ?_)
        try dsimp only at hw
        replace hP : va_P D vwCl (wL g q h z kS vS bS llS lvS lhS mvS leM ceM fM kM vM wiM moM waM wkM wvM) H := hP
        replace hD : va_D (fun q : Nat => s.heap.size ≤ q) (wL g q h z kS vS bS llS lvS lhS mvS leM ceM fM kM vM wiM moM waM wkM wvM) := hD
        refine q_lc_eq (tgt := 1057) hx hb dL_law_599 dL_law_600 (by decide) (fun c_99 => ?_) (fun c_99 => ?_)
        · replace hw := hw.1 c_99
          refine lv_iinc (v := (x3 + 6)) (lv' := [(3, .int (x3 + 6)), (0, .ref b), (1, .ref (g 0)), (2, .ref (h 0))]) hx hb dL_law_1057 hl (k := 3) rfl rfl (by decide) rfl (fun ls hl => ?_)
          refine lv_goto (tgt := 28) hx hb dL_law_1060 (by decide) ?_
          exact ih (x3 + 6) kS vS bS lvS lhS mvS ceM fM kM vM wiM moM waM wkM wvM hw _ _ ls hP hD hS (lv_sub hl [1, 2, 3, 0] rfl)
        · replace hw := hw.2 c_99
          refine lv_iconst (v := 0) hx hb dL_law_603 (by decide) ?_
          exact False.elim hw
      · refine lv_tableIn (tgt := 605) (off := 562) hx hb dL_law_43 (by rw [ej]; decide) (by rw [ej]; decide) (by rw [ej]; rfl) (by decide) ?_
        replace hw := hw.2.2.2.2.2.2.2.1 ej
        refine lv_aload_n hx hb dL_law_605 rfl (lv_at hl 1 rfl) ?_
        refine lv_aload_n hx hb dL_law_606 rfl (lv_at hl 0 rfl) ?_
        refine lv_iload_n hx hb dL_law_607 rfl (lv_at hl 3 rfl) ?_
        refine lv_iconst (v := 1) hx hb dL_law_608 (by decide) ?_
        refine lv_iadd hx hb dL_law_609 ?_
        obtain ⟨hi_100, hw⟩ := hw
        refine va_sld hx hb hX hbl hbA hS hi_100 dL_law_610 ?_
        refine lv_i2l hx hb dL_law_611 rfl ?_
        refine lv_bipush (v := 32) hx hb dL_law_612 (by decide) ?_
        refine lv_lshl hx hb dL_law_614 rfl ?_
        refine lv_aload_n hx hb dL_law_615 rfl (lv_at hl 0 rfl) ?_
        refine lv_iload_n hx hb dL_law_616 rfl (lv_at hl 3 rfl) ?_
        refine lv_iconst (v := 2) hx hb dL_law_617 (by decide) ?_
        refine lv_iadd hx hb dL_law_618 ?_
        obtain ⟨hi_101, hw⟩ := hw
        refine va_sld hx hb hX hbl hbA hS hi_101 dL_law_619 ?_
        refine lv_i2l hx hb dL_law_620 rfl ?_
        refine lv_ldc2 (v := 4294967295) hx hb hown (hts _ tcn_L_21) dL_law_621 ?_
        refine lv_land hx hb dL_law_624 ?_
        refine lv_lor hx hb dL_law_625 ?_
        refine q_callVl (As := [.long (((xs (x3 + 1).toNatClampNeg).toInt64 <<< ((32 : Int32).toInt64 &&& 63)) ||| ((xs (x3 + 2).toNatClampNeg).toInt64 &&& 4294967295))]) (rest := []) (wr := (wM h z leM ceM fM kM vM wiM moM waM wkM wvM)) [0, 1, 2, 3] [4, 5, 6, 7, 8, 9] ⟨hx, hb, hml, hown, hts⟩ (c_S_ceiling l D g q kS vS bS llS lvS lhS mvS (((xs (x3 + 1).toNatClampNeg).toInt64 <<< ((32 : Int32).toInt64 &&& 63)) ||| ((xs (x3 + 2).toNatClampNeg).toInt64 &&& 4294967295)) _ hw _) (cwV 1 hts gL_law_X0_ceiling rfl rfl rfl (by decide +kernel) ⟨Nat.le_of_ble_eq_true rfl, Nat.le_of_ble_eq_true rfl⟩) (va_recv hK hP (ci := 0) (q0 := 0) rfl rfl) (hK.sub (tys' := tS q) [0, 1, 2] rfl) hP hD hS hA rfl rfl rfl (by decide) (by decide) (by decide) rfl hl.1 rfl (Nat.le_of_ble_eq_true rfl) dL_law_626 ⟨Nat.le_of_ble_eq_true rfl, Nat.le_of_ble_eq_true rfl⟩ (fun r_102 u H locs hw hP hD hS => ?_)
        try dsimp only at hw
        replace hP : va_P D vwCl (wL g q h z kS vS bS llS lvS lhS mvS leM ceM fM kM vM wiM moM waM wkM wvM) H := hP.sub [6, 7, 8, 9, 0, 1, 2, 3, 4, 5] rfl
        replace hD : va_D (fun q : Nat => s.heap.size ≤ q) (wL g q h z kS vS bS llS lvS lhS mvS leM ceM fM kM vM wiM moM waM wkM wvM) := hD.sub [6, 7, 8, 9, 0, 1, 2, 3, 4, 5] (by decide) rfl
        refine lv_aload_n hx hb dL_law_629 rfl (lv_at hl 2 rfl) ?_
        refine lv_aload_n hx hb dL_law_630 rfl (lv_at hl 0 rfl) ?_
        refine lv_iload_n hx hb dL_law_631 rfl (lv_at hl 3 rfl) ?_
        refine lv_iconst (v := 1) hx hb dL_law_632 (by decide) ?_
        refine lv_iadd hx hb dL_law_633 ?_
        refine va_sld hx hb hX hbl hbA hS hi_100 dL_law_634 ?_
        refine lv_i2l hx hb dL_law_635 rfl ?_
        refine lv_bipush (v := 32) hx hb dL_law_636 (by decide) ?_
        refine lv_lshl hx hb dL_law_638 rfl ?_
        refine lv_aload_n hx hb dL_law_639 rfl (lv_at hl 0 rfl) ?_
        refine lv_iload_n hx hb dL_law_640 rfl (lv_at hl 3 rfl) ?_
        refine lv_iconst (v := 2) hx hb dL_law_641 (by decide) ?_
        refine lv_iadd hx hb dL_law_642 ?_
        refine va_sld hx hb hX hbl hbA hS hi_101 dL_law_643 ?_
        refine lv_i2l hx hb dL_law_644 rfl ?_
        refine lv_ldc2 (v := 4294967295) hx hb hown (hts _ tcn_L_21) dL_law_645 ?_
        refine lv_land hx hb dL_law_648 ?_
        refine lv_lor hx hb dL_law_649 ?_
        refine q_callVl (As := [.long (((xs (x3 + 1).toNatClampNeg).toInt64 <<< ((32 : Int32).toInt64 &&& 63)) ||| ((xs (x3 + 2).toNatClampNeg).toInt64 &&& 4294967295))]) (rest := [.long r_102]) (wr := (wS g q kS vS bS llS lvS lhS mvS)) [4, 5, 6, 7, 8, 9] [0, 1, 2, 3] ⟨hx, hb, hml, hown, hts⟩ (c_M_ceiling l D h z leM ceM fM kM vM wiM moM waM wkM wvM (((xs (x3 + 1).toNatClampNeg).toInt64 <<< ((32 : Int32).toInt64 &&& 63)) ||| ((xs (x3 + 2).toNatClampNeg).toInt64 &&& 4294967295)) _ hw _) (cwV 1 hts gL_law_X1_ceiling rfl rfl rfl (by decide +kernel) ⟨Nat.le_of_ble_eq_true rfl, Nat.le_of_ble_eq_true rfl⟩) (va_recv hK hP (ci := 1) (q0 := 4) rfl rfl) (hK.sub (tys' := tM z) [3, 4, 5, 6, 7] rfl) hP hD hS hA rfl rfl rfl (by decide) (by decide) (by decide) rfl hl.1 rfl (Nat.le_of_ble_eq_true rfl) dL_law_650 ⟨Nat.le_of_ble_eq_true rfl, Nat.le_of_ble_eq_true rfl⟩ (fun r_103 u H locs hw hP hD hS => ?_)
        try dsimp only at hw
        replace hP : va_P D vwCl (wL g q h z kS vS bS llS lvS lhS mvS leM ceM fM kM vM wiM moM waM wkM wvM) H := hP
        replace hD : va_D (fun q : Nat => s.heap.size ≤ q) (wL g q h z kS vS bS llS lvS lhS mvS leM ceM fM kM vM wiM moM waM wkM wvM) := hD
        refine q_lc_eq (tgt := 1057) hx hb dL_law_653 dL_law_654 (by decide) (fun c_104 => ?_) (fun c_104 => ?_)
        · replace hw := hw.1 c_104
          refine lv_iinc (v := (x3 + 6)) (lv' := [(3, .int (x3 + 6)), (0, .ref b), (1, .ref (g 0)), (2, .ref (h 0))]) hx hb dL_law_1057 hl (k := 3) rfl rfl (by decide) rfl (fun ls hl => ?_)
          refine lv_goto (tgt := 28) hx hb dL_law_1060 (by decide) ?_
          exact ih (x3 + 6) kS vS bS lvS lhS mvS ceM fM kM vM wiM moM waM wkM wvM hw _ _ ls hP hD hS (lv_sub hl [1, 2, 3, 0] rfl)
        · replace hw := hw.2 c_104
          refine lv_iconst (v := 0) hx hb dL_law_657 (by decide) ?_
          exact False.elim hw
      · refine lv_tableIn (tgt := 659) (off := 616) hx hb dL_law_43 (by rw [ej]; decide) (by rw [ej]; decide) (by rw [ej]; rfl) (by decide) ?_
        replace hw := hw.2.2.2.2.2.2.2.2.1 ej
        refine lv_aload_n hx hb dL_law_659 rfl (lv_at hl 1 rfl) ?_
        refine lv_aload_n hx hb dL_law_660 rfl (lv_at hl 0 rfl) ?_
        refine lv_iload_n hx hb dL_law_661 rfl (lv_at hl 3 rfl) ?_
        refine lv_iconst (v := 1) hx hb dL_law_662 (by decide) ?_
        refine lv_iadd hx hb dL_law_663 ?_
        obtain ⟨hi_105, hw⟩ := hw
        refine va_sld hx hb hX hbl hbA hS hi_105 dL_law_664 ?_
        refine q_callVl (As := [.int (xs (x3 + 1).toNatClampNeg)]) (rest := []) (wr := (wM h z leM ceM fM kM vM wiM moM waM wkM wvM)) [0, 1, 2, 3] [4, 5, 6, 7, 8, 9] ⟨hx, hb, hml, hown, hts⟩ (c_S_select l D g q kS vS bS llS lvS lhS mvS (xs (x3 + 1).toNatClampNeg) _ hw _) (cwV 1 hts gL_law_X0_select rfl rfl rfl (by decide +kernel) ⟨Nat.le_of_ble_eq_true rfl, Nat.le_of_ble_eq_true rfl⟩) (va_recv hK hP (ci := 0) (q0 := 0) rfl rfl) (hK.sub (tys' := tS q) [0, 1, 2] rfl) hP hD hS hA rfl rfl rfl (by decide) (by decide) (by decide) rfl hl.1 rfl (Nat.le_of_ble_eq_true rfl) dL_law_665 ⟨Nat.le_of_ble_eq_true rfl, Nat.le_of_ble_eq_true rfl⟩ (fun r_106 u H locs hw hP hD hS => ?_)
        try dsimp only at hw
        replace hP : va_P D vwCl (wL g q h z kS vS bS llS lvS lhS mvS leM ceM fM kM vM wiM moM waM wkM wvM) H := hP.sub [6, 7, 8, 9, 0, 1, 2, 3, 4, 5] rfl
        replace hD : va_D (fun q : Nat => s.heap.size ≤ q) (wL g q h z kS vS bS llS lvS lhS mvS leM ceM fM kM vM wiM moM waM wkM wvM) := hD.sub [6, 7, 8, 9, 0, 1, 2, 3, 4, 5] (by decide) rfl
        refine lv_aload_n hx hb dL_law_668 rfl (lv_at hl 2 rfl) ?_
        refine lv_aload_n hx hb dL_law_669 rfl (lv_at hl 0 rfl) ?_
        refine lv_iload_n hx hb dL_law_670 rfl (lv_at hl 3 rfl) ?_
        refine lv_iconst (v := 1) hx hb dL_law_671 (by decide) ?_
        refine lv_iadd hx hb dL_law_672 ?_
        refine va_sld hx hb hX hbl hbA hS hi_105 dL_law_673 ?_
        refine q_callVl (As := [.int (xs (x3 + 1).toNatClampNeg)]) (rest := [.long r_106]) (wr := (wS g q kS vS bS llS lvS lhS mvS)) [4, 5, 6, 7, 8, 9] [0, 1, 2, 3] ⟨hx, hb, hml, hown, hts⟩ (c_M_select l D h z leM ceM fM kM vM wiM moM waM wkM wvM (xs (x3 + 1).toNatClampNeg) _ hw _) (cwV 1 hts gL_law_X1_select rfl rfl rfl (by decide +kernel) ⟨Nat.le_of_ble_eq_true rfl, Nat.le_of_ble_eq_true rfl⟩) (va_recv hK hP (ci := 1) (q0 := 4) rfl rfl) (hK.sub (tys' := tM z) [3, 4, 5, 6, 7] rfl) hP hD hS hA rfl rfl rfl (by decide) (by decide) (by decide) rfl hl.1 rfl (Nat.le_of_ble_eq_true rfl) dL_law_674 ⟨Nat.le_of_ble_eq_true rfl, Nat.le_of_ble_eq_true rfl⟩ (fun r_107 u H locs hw hP hD hS => ?_)
        try dsimp only at hw
        replace hP : va_P D vwCl (wL g q h z kS vS bS llS lvS lhS mvS leM ceM fM kM vM wiM moM waM wkM wvM) H := hP
        replace hD : va_D (fun q : Nat => s.heap.size ≤ q) (wL g q h z kS vS bS llS lvS lhS mvS leM ceM fM kM vM wiM moM waM wkM wvM) := hD
        refine q_lc_eq (tgt := 1057) hx hb dL_law_677 dL_law_678 (by decide) (fun c_108 => ?_) (fun c_108 => ?_)
        · replace hw := hw.1 c_108
          refine lv_iinc (v := (x3 + 6)) (lv' := [(3, .int (x3 + 6)), (0, .ref b), (1, .ref (g 0)), (2, .ref (h 0))]) hx hb dL_law_1057 hl (k := 3) rfl rfl (by decide) rfl (fun ls hl => ?_)
          refine lv_goto (tgt := 28) hx hb dL_law_1060 (by decide) ?_
          exact ih (x3 + 6) kS vS bS lvS lhS mvS ceM fM kM vM wiM moM waM wkM wvM hw _ _ ls hP hD hS (lv_sub hl [1, 2, 3, 0] rfl)
        · replace hw := hw.2 c_108
          refine lv_iconst (v := 0) hx hb dL_law_681 (by decide) ?_
          exact False.elim hw
      · refine lv_tableIn (tgt := 683) (off := 640) hx hb dL_law_43 (by rw [ej]; decide) (by rw [ej]; decide) (by rw [ej]; rfl) (by decide) ?_
        replace hw := hw.2.2.2.2.2.2.2.2.2.1 ej
        refine lv_aload_n hx hb dL_law_683 rfl (lv_at hl 1 rfl) ?_
        refine lv_aload_n hx hb dL_law_684 rfl (lv_at hl 0 rfl) ?_
        refine lv_iload_n hx hb dL_law_685 rfl (lv_at hl 3 rfl) ?_
        refine lv_iconst (v := 1) hx hb dL_law_686 (by decide) ?_
        refine lv_iadd hx hb dL_law_687 ?_
        obtain ⟨hi_109, hw⟩ := hw
        refine va_sld hx hb hX hbl hbA hS hi_109 dL_law_688 ?_
        refine lv_i2l hx hb dL_law_689 rfl ?_
        refine lv_bipush (v := 32) hx hb dL_law_690 (by decide) ?_
        refine lv_lshl hx hb dL_law_692 rfl ?_
        refine lv_aload_n hx hb dL_law_693 rfl (lv_at hl 0 rfl) ?_
        refine lv_iload_n hx hb dL_law_694 rfl (lv_at hl 3 rfl) ?_
        refine lv_iconst (v := 2) hx hb dL_law_695 (by decide) ?_
        refine lv_iadd hx hb dL_law_696 ?_
        obtain ⟨hi_110, hw⟩ := hw
        refine va_sld hx hb hX hbl hbA hS hi_110 dL_law_697 ?_
        refine lv_i2l hx hb dL_law_698 rfl ?_
        refine lv_ldc2 (v := 4294967295) hx hb hown (hts _ tcn_L_21) dL_law_699 ?_
        refine lv_land hx hb dL_law_702 ?_
        refine lv_lor hx hb dL_law_703 ?_
        refine lv_aload_n hx hb dL_law_704 rfl (lv_at hl 0 rfl) ?_
        refine lv_iload_n hx hb dL_law_705 rfl (lv_at hl 3 rfl) ?_
        refine lv_iconst (v := 3) hx hb dL_law_706 (by decide) ?_
        refine lv_iadd hx hb dL_law_707 ?_
        obtain ⟨hi_111, hw⟩ := hw
        refine va_sld hx hb hX hbl hbA hS hi_111 dL_law_708 ?_
        refine lv_i2l hx hb dL_law_709 rfl ?_
        refine lv_bipush (v := 32) hx hb dL_law_710 (by decide) ?_
        refine lv_lshl hx hb dL_law_712 rfl ?_
        refine lv_aload_n hx hb dL_law_713 rfl (lv_at hl 0 rfl) ?_
        refine lv_iload_n hx hb dL_law_714 rfl (lv_at hl 3 rfl) ?_
        refine lv_iconst (v := 4) hx hb dL_law_715 (by decide) ?_
        refine lv_iadd hx hb dL_law_716 ?_
        obtain ⟨hi_112, hw⟩ := hw
        refine va_sld hx hb hX hbl hbA hS hi_112 dL_law_717 ?_
        refine lv_i2l hx hb dL_law_718 rfl ?_
        refine lv_ldc2 (v := 4294967295) hx hb hown (hts _ tcn_L_21) dL_law_719 ?_
        refine lv_land hx hb dL_law_722 ?_
        refine lv_lor hx hb dL_law_723 ?_
        refine q_callVi (As := [.long (((xs (x3 + 1).toNatClampNeg).toInt64 <<< ((32 : Int32).toInt64 &&& 63)) ||| ((xs (x3 + 2).toNatClampNeg).toInt64 &&& 4294967295)), .long (((xs (x3 + 3).toNatClampNeg).toInt64 <<< ((32 : Int32).toInt64 &&& 63)) ||| ((xs (x3 + 4).toNatClampNeg).toInt64 &&& 4294967295))]) (rest := []) (wr := (wM h z leM ceM fM kM vM wiM moM waM wkM wvM)) [0, 1, 2, 3] [4, 5, 6, 7, 8, 9] ⟨hx, hb, hml, hown, hts⟩ (c_S_count l D g q kS vS bS llS lvS lhS mvS (((xs (x3 + 1).toNatClampNeg).toInt64 <<< ((32 : Int32).toInt64 &&& 63)) ||| ((xs (x3 + 2).toNatClampNeg).toInt64 &&& 4294967295)) (((xs (x3 + 3).toNatClampNeg).toInt64 <<< ((32 : Int32).toInt64 &&& 63)) ||| ((xs (x3 + 4).toNatClampNeg).toInt64 &&& 4294967295)) _ hw _) (cwV 2 hts gL_law_X0_count rfl rfl rfl (by decide +kernel) ⟨Nat.le_of_ble_eq_true rfl, Nat.le_of_ble_eq_true rfl⟩) (va_recv hK hP (ci := 0) (q0 := 0) rfl rfl) (hK.sub (tys' := tS q) [0, 1, 2] rfl) hP hD hS hA rfl rfl rfl (by decide) (by decide) (by decide) rfl hl.1 rfl (Nat.le_of_ble_eq_true rfl) dL_law_724 ⟨Nat.le_of_ble_eq_true rfl, Nat.le_of_ble_eq_true rfl⟩ (fun r_113 u H locs hw hP hD hS => ?_)
        try dsimp only at hw
        replace hP : va_P D vwCl (wL g q h z kS vS bS llS lvS lhS mvS leM ceM fM kM vM wiM moM waM wkM wvM) H := hP.sub [6, 7, 8, 9, 0, 1, 2, 3, 4, 5] rfl
        replace hD : va_D (fun q : Nat => s.heap.size ≤ q) (wL g q h z kS vS bS llS lvS lhS mvS leM ceM fM kM vM wiM moM waM wkM wvM) := hD.sub [6, 7, 8, 9, 0, 1, 2, 3, 4, 5] (by decide) rfl
        refine lv_aload_n hx hb dL_law_727 rfl (lv_at hl 2 rfl) ?_
        refine lv_aload_n hx hb dL_law_728 rfl (lv_at hl 0 rfl) ?_
        refine lv_iload_n hx hb dL_law_729 rfl (lv_at hl 3 rfl) ?_
        refine lv_iconst (v := 1) hx hb dL_law_730 (by decide) ?_
        refine lv_iadd hx hb dL_law_731 ?_
        refine va_sld hx hb hX hbl hbA hS hi_109 dL_law_732 ?_
        refine lv_i2l hx hb dL_law_733 rfl ?_
        refine lv_bipush (v := 32) hx hb dL_law_734 (by decide) ?_
        refine lv_lshl hx hb dL_law_736 rfl ?_
        refine lv_aload_n hx hb dL_law_737 rfl (lv_at hl 0 rfl) ?_
        refine lv_iload_n hx hb dL_law_738 rfl (lv_at hl 3 rfl) ?_
        refine lv_iconst (v := 2) hx hb dL_law_739 (by decide) ?_
        refine lv_iadd hx hb dL_law_740 ?_
        refine va_sld hx hb hX hbl hbA hS hi_110 dL_law_741 ?_
        refine lv_i2l hx hb dL_law_742 rfl ?_
        refine lv_ldc2 (v := 4294967295) hx hb hown (hts _ tcn_L_21) dL_law_743 ?_
        refine lv_land hx hb dL_law_746 ?_
        refine lv_lor hx hb dL_law_747 ?_
        refine lv_aload_n hx hb dL_law_748 rfl (lv_at hl 0 rfl) ?_
        refine lv_iload_n hx hb dL_law_749 rfl (lv_at hl 3 rfl) ?_
        refine lv_iconst (v := 3) hx hb dL_law_750 (by decide) ?_
        refine lv_iadd hx hb dL_law_751 ?_
        refine va_sld hx hb hX hbl hbA hS hi_111 dL_law_752 ?_
        refine lv_i2l hx hb dL_law_753 rfl ?_
        refine lv_bipush (v := 32) hx hb dL_law_754 (by decide) ?_
        refine lv_lshl hx hb dL_law_756 rfl ?_
        refine lv_aload_n hx hb dL_law_757 rfl (lv_at hl 0 rfl) ?_
        refine lv_iload_n hx hb dL_law_758 rfl (lv_at hl 3 rfl) ?_
        refine lv_iconst (v := 4) hx hb dL_law_759 (by decide) ?_
        refine lv_iadd hx hb dL_law_760 ?_
        refine va_sld hx hb hX hbl hbA hS hi_112 dL_law_761 ?_
        refine lv_i2l hx hb dL_law_762 rfl ?_
        refine lv_ldc2 (v := 4294967295) hx hb hown (hts _ tcn_L_21) dL_law_763 ?_
        refine lv_land hx hb dL_law_766 ?_
        refine lv_lor hx hb dL_law_767 ?_
        refine q_callVi (As := [.long (((xs (x3 + 1).toNatClampNeg).toInt64 <<< ((32 : Int32).toInt64 &&& 63)) ||| ((xs (x3 + 2).toNatClampNeg).toInt64 &&& 4294967295)), .long (((xs (x3 + 3).toNatClampNeg).toInt64 <<< ((32 : Int32).toInt64 &&& 63)) ||| ((xs (x3 + 4).toNatClampNeg).toInt64 &&& 4294967295))]) (rest := [.int r_113]) (wr := (wS g q kS vS bS llS lvS lhS mvS)) [4, 5, 6, 7, 8, 9] [0, 1, 2, 3] ⟨hx, hb, hml, hown, hts⟩ (c_M_count l D h z leM ceM fM kM vM wiM moM waM wkM wvM (((xs (x3 + 1).toNatClampNeg).toInt64 <<< ((32 : Int32).toInt64 &&& 63)) ||| ((xs (x3 + 2).toNatClampNeg).toInt64 &&& 4294967295)) (((xs (x3 + 3).toNatClampNeg).toInt64 <<< ((32 : Int32).toInt64 &&& 63)) ||| ((xs (x3 + 4).toNatClampNeg).toInt64 &&& 4294967295)) _ hw _) (cwV 2 hts gL_law_X1_count rfl rfl rfl (by decide +kernel) ⟨Nat.le_of_ble_eq_true rfl, Nat.le_of_ble_eq_true rfl⟩) (va_recv hK hP (ci := 1) (q0 := 4) rfl rfl) (hK.sub (tys' := tM z) [3, 4, 5, 6, 7] rfl) hP hD hS hA rfl rfl rfl (by decide) (by decide) (by decide) rfl hl.1 rfl (Nat.le_of_ble_eq_true rfl) dL_law_768 ⟨Nat.le_of_ble_eq_true rfl, Nat.le_of_ble_eq_true rfl⟩ (fun r_114 u H locs hw hP hD hS => ?_)
        try dsimp only at hw
        replace hP : va_P D vwCl (wL g q h z kS vS bS llS lvS lhS mvS leM ceM fM kM vM wiM moM waM wkM wvM) H := hP
        replace hD : va_D (fun q : Nat => s.heap.size ≤ q) (wL g q h z kS vS bS llS lvS lhS mvS leM ceM fM kM vM wiM moM waM wkM wvM) := hD
        refine lv_icmp_eq (tgt := 1057) hx hb dL_law_771 (by decide) (fun c_115 => ?_) (fun c_115 => ?_)
        · replace hw := hw.1 c_115
          refine lv_iinc (v := (x3 + 6)) (lv' := [(3, .int (x3 + 6)), (0, .ref b), (1, .ref (g 0)), (2, .ref (h 0))]) hx hb dL_law_1057 hl (k := 3) rfl rfl (by decide) rfl (fun ls hl => ?_)
          refine lv_goto (tgt := 28) hx hb dL_law_1060 (by decide) ?_
          exact ih (x3 + 6) kS vS bS lvS lhS mvS ceM fM kM vM wiM moM waM wkM wvM hw _ _ ls hP hD hS (lv_sub hl [1, 2, 3, 0] rfl)
        · replace hw := hw.2 c_115
          refine lv_iconst (v := 0) hx hb dL_law_774 (by decide) ?_
          exact False.elim hw
      · refine lv_tableIn (tgt := 776) (off := 733) hx hb dL_law_43 (by rw [ej]; decide) (by rw [ej]; decide) (by rw [ej]; rfl) (by decide) ?_
        replace hw := hw.2.2.2.2.2.2.2.2.2.2.1 ej
        refine lv_aload_n hx hb dL_law_776 rfl (lv_at hl 1 rfl) ?_
        refine lv_aload_n hx hb dL_law_777 rfl (lv_at hl 0 rfl) ?_
        refine lv_iload_n hx hb dL_law_778 rfl (lv_at hl 3 rfl) ?_
        refine lv_iconst (v := 1) hx hb dL_law_779 (by decide) ?_
        refine lv_iadd hx hb dL_law_780 ?_
        obtain ⟨hi_116, hw⟩ := hw
        refine va_sld hx hb hX hbl hbA hS hi_116 dL_law_781 ?_
        refine lv_i2l hx hb dL_law_782 rfl ?_
        refine lv_bipush (v := 32) hx hb dL_law_783 (by decide) ?_
        refine lv_lshl hx hb dL_law_785 rfl ?_
        refine lv_aload_n hx hb dL_law_786 rfl (lv_at hl 0 rfl) ?_
        refine lv_iload_n hx hb dL_law_787 rfl (lv_at hl 3 rfl) ?_
        refine lv_iconst (v := 2) hx hb dL_law_788 (by decide) ?_
        refine lv_iadd hx hb dL_law_789 ?_
        obtain ⟨hi_117, hw⟩ := hw
        refine va_sld hx hb hX hbl hbA hS hi_117 dL_law_790 ?_
        refine lv_i2l hx hb dL_law_791 rfl ?_
        refine lv_ldc2 (v := 4294967295) hx hb hown (hts _ tcn_L_21) dL_law_792 ?_
        refine lv_land hx hb dL_law_795 ?_
        refine lv_lor hx hb dL_law_796 ?_
        refine lv_aload_n hx hb dL_law_797 rfl (lv_at hl 0 rfl) ?_
        refine lv_iload_n hx hb dL_law_798 rfl (lv_at hl 3 rfl) ?_
        refine lv_iconst (v := 3) hx hb dL_law_799 (by decide) ?_
        refine lv_iadd hx hb dL_law_800 ?_
        obtain ⟨hi_118, hw⟩ := hw
        refine va_sld hx hb hX hbl hbA hS hi_118 dL_law_801 ?_
        refine lv_i2l hx hb dL_law_802 rfl ?_
        refine lv_bipush (v := 32) hx hb dL_law_803 (by decide) ?_
        refine lv_lshl hx hb dL_law_805 rfl ?_
        refine lv_aload_n hx hb dL_law_806 rfl (lv_at hl 0 rfl) ?_
        refine lv_iload_n hx hb dL_law_807 rfl (lv_at hl 3 rfl) ?_
        refine lv_iconst (v := 4) hx hb dL_law_808 (by decide) ?_
        refine lv_iadd hx hb dL_law_809 ?_
        obtain ⟨hi_119, hw⟩ := hw
        refine va_sld hx hb hX hbl hbA hS hi_119 dL_law_810 ?_
        refine lv_i2l hx hb dL_law_811 rfl ?_
        refine lv_ldc2 (v := 4294967295) hx hb hown (hts _ tcn_L_21) dL_law_812 ?_
        refine lv_land hx hb dL_law_815 ?_
        refine lv_lor hx hb dL_law_816 ?_
        refine q_callVl (As := [.long (((xs (x3 + 1).toNatClampNeg).toInt64 <<< ((32 : Int32).toInt64 &&& 63)) ||| ((xs (x3 + 2).toNatClampNeg).toInt64 &&& 4294967295)), .long (((xs (x3 + 3).toNatClampNeg).toInt64 <<< ((32 : Int32).toInt64 &&& 63)) ||| ((xs (x3 + 4).toNatClampNeg).toInt64 &&& 4294967295))]) (rest := []) (wr := (wM h z leM ceM fM kM vM wiM moM waM wkM wvM)) [0, 1, 2, 3] [4, 5, 6, 7, 8, 9] ⟨hx, hb, hml, hown, hts⟩ (c_S_sum l D g q kS vS bS llS lvS lhS mvS (((xs (x3 + 1).toNatClampNeg).toInt64 <<< ((32 : Int32).toInt64 &&& 63)) ||| ((xs (x3 + 2).toNatClampNeg).toInt64 &&& 4294967295)) (((xs (x3 + 3).toNatClampNeg).toInt64 <<< ((32 : Int32).toInt64 &&& 63)) ||| ((xs (x3 + 4).toNatClampNeg).toInt64 &&& 4294967295)) _ hw _) (cwV 2 hts gL_law_X0_sum rfl rfl rfl (by decide +kernel) ⟨Nat.le_of_ble_eq_true rfl, Nat.le_of_ble_eq_true rfl⟩) (va_recv hK hP (ci := 0) (q0 := 0) rfl rfl) (hK.sub (tys' := tS q) [0, 1, 2] rfl) hP hD hS hA rfl rfl rfl (by decide) (by decide) (by decide) rfl hl.1 rfl (Nat.le_of_ble_eq_true rfl) dL_law_817 ⟨Nat.le_of_ble_eq_true rfl, Nat.le_of_ble_eq_true rfl⟩ (fun r_120 u H locs hw hP hD hS => ?_)
        try dsimp only at hw
        replace hP : va_P D vwCl (wL g q h z kS vS bS llS lvS lhS mvS leM ceM fM kM vM wiM moM waM wkM wvM) H := hP.sub [6, 7, 8, 9, 0, 1, 2, 3, 4, 5] rfl
        replace hD : va_D (fun q : Nat => s.heap.size ≤ q) (wL g q h z kS vS bS llS lvS lhS mvS leM ceM fM kM vM wiM moM waM wkM wvM) := hD.sub [6, 7, 8, 9, 0, 1, 2, 3, 4, 5] (by decide) rfl
        refine lv_aload_n hx hb dL_law_820 rfl (lv_at hl 2 rfl) ?_
        refine lv_aload_n hx hb dL_law_821 rfl (lv_at hl 0 rfl) ?_
        refine lv_iload_n hx hb dL_law_822 rfl (lv_at hl 3 rfl) ?_
        refine lv_iconst (v := 1) hx hb dL_law_823 (by decide) ?_
        refine lv_iadd hx hb dL_law_824 ?_
        refine va_sld hx hb hX hbl hbA hS hi_116 dL_law_825 ?_
        refine lv_i2l hx hb dL_law_826 rfl ?_
        refine lv_bipush (v := 32) hx hb dL_law_827 (by decide) ?_
        refine lv_lshl hx hb dL_law_829 rfl ?_
        refine lv_aload_n hx hb dL_law_830 rfl (lv_at hl 0 rfl) ?_
        refine lv_iload_n hx hb dL_law_831 rfl (lv_at hl 3 rfl) ?_
        refine lv_iconst (v := 2) hx hb dL_law_832 (by decide) ?_
        refine lv_iadd hx hb dL_law_833 ?_
        refine va_sld hx hb hX hbl hbA hS hi_117 dL_law_834 ?_
        refine lv_i2l hx hb dL_law_835 rfl ?_
        refine lv_ldc2 (v := 4294967295) hx hb hown (hts _ tcn_L_21) dL_law_836 ?_
        refine lv_land hx hb dL_law_839 ?_
        refine lv_lor hx hb dL_law_840 ?_
        refine lv_aload_n hx hb dL_law_841 rfl (lv_at hl 0 rfl) ?_
        refine lv_iload_n hx hb dL_law_842 rfl (lv_at hl 3 rfl) ?_
        refine lv_iconst (v := 3) hx hb dL_law_843 (by decide) ?_
        refine lv_iadd hx hb dL_law_844 ?_
        refine va_sld hx hb hX hbl hbA hS hi_118 dL_law_845 ?_
        refine lv_i2l hx hb dL_law_846 rfl ?_
        refine lv_bipush (v := 32) hx hb dL_law_847 (by decide) ?_
        refine lv_lshl hx hb dL_law_849 rfl ?_
        refine lv_aload_n hx hb dL_law_850 rfl (lv_at hl 0 rfl) ?_
        refine lv_iload_n hx hb dL_law_851 rfl (lv_at hl 3 rfl) ?_
        refine lv_iconst (v := 4) hx hb dL_law_852 (by decide) ?_
        refine lv_iadd hx hb dL_law_853 ?_
        refine va_sld hx hb hX hbl hbA hS hi_119 dL_law_854 ?_
        refine lv_i2l hx hb dL_law_855 rfl ?_
        refine lv_ldc2 (v := 4294967295) hx hb hown (hts _ tcn_L_21) dL_law_856 ?_
        refine lv_land hx hb dL_law_859 ?_
        refine lv_lor hx hb dL_law_860 ?_
        refine q_callVl (As := [.long (((xs (x3 + 1).toNatClampNeg).toInt64 <<< ((32 : Int32).toInt64 &&& 63)) ||| ((xs (x3 + 2).toNatClampNeg).toInt64 &&& 4294967295)), .long (((xs (x3 + 3).toNatClampNeg).toInt64 <<< ((32 : Int32).toInt64 &&& 63)) ||| ((xs (x3 + 4).toNatClampNeg).toInt64 &&& 4294967295))]) (rest := [.long r_120]) (wr := (wS g q kS vS bS llS lvS lhS mvS)) [4, 5, 6, 7, 8, 9] [0, 1, 2, 3] ⟨hx, hb, hml, hown, hts⟩ (c_M_sum l D h z leM ceM fM kM vM wiM moM waM wkM wvM (((xs (x3 + 1).toNatClampNeg).toInt64 <<< ((32 : Int32).toInt64 &&& 63)) ||| ((xs (x3 + 2).toNatClampNeg).toInt64 &&& 4294967295)) (((xs (x3 + 3).toNatClampNeg).toInt64 <<< ((32 : Int32).toInt64 &&& 63)) ||| ((xs (x3 + 4).toNatClampNeg).toInt64 &&& 4294967295)) _ hw _) (cwV 2 hts gL_law_X1_sum rfl rfl rfl (by decide +kernel) ⟨Nat.le_of_ble_eq_true rfl, Nat.le_of_ble_eq_true rfl⟩) (va_recv hK hP (ci := 1) (q0 := 4) rfl rfl) (hK.sub (tys' := tM z) [3, 4, 5, 6, 7] rfl) hP hD hS hA rfl rfl rfl (by decide) (by decide) (by decide) rfl hl.1 rfl (Nat.le_of_ble_eq_true rfl) dL_law_861 ⟨Nat.le_of_ble_eq_true rfl, Nat.le_of_ble_eq_true rfl⟩ (fun r_121 u H locs hw hP hD hS => ?_)
        try dsimp only at hw
        replace hP : va_P D vwCl (wL g q h z kS vS bS llS lvS lhS mvS leM ceM fM kM vM wiM moM waM wkM wvM) H := hP
        replace hD : va_D (fun q : Nat => s.heap.size ≤ q) (wL g q h z kS vS bS llS lvS lhS mvS leM ceM fM kM vM wiM moM waM wkM wvM) := hD
        refine q_lc_eq (tgt := 1057) hx hb dL_law_864 dL_law_865 (by decide) (fun c_122 => ?_) (fun c_122 => ?_)
        · replace hw := hw.1 c_122
          refine lv_iinc (v := (x3 + 6)) (lv' := [(3, .int (x3 + 6)), (0, .ref b), (1, .ref (g 0)), (2, .ref (h 0))]) hx hb dL_law_1057 hl (k := 3) rfl rfl (by decide) rfl (fun ls hl => ?_)
          refine lv_goto (tgt := 28) hx hb dL_law_1060 (by decide) ?_
          exact ih (x3 + 6) kS vS bS lvS lhS mvS ceM fM kM vM wiM moM waM wkM wvM hw _ _ ls hP hD hS (lv_sub hl [1, 2, 3, 0] rfl)
        · replace hw := hw.2 c_122
          refine lv_iconst (v := 0) hx hb dL_law_868 (by decide) ?_
          exact False.elim hw
      · refine lv_tableIn (tgt := 870) (off := 827) hx hb dL_law_43 (by rw [ej]; decide) (by rw [ej]; decide) (by rw [ej]; rfl) (by decide) ?_
        replace hw := hw.2.2.2.2.2.2.2.2.2.2.2.1 ej
        refine lv_aload_n hx hb dL_law_870 rfl (lv_at hl 1 rfl) ?_
        refine q_callVi (As := []) (rest := []) (wr := (wM h z leM ceM fM kM vM wiM moM waM wkM wvM)) [0, 1, 2, 3] [4, 5, 6, 7, 8, 9] ⟨hx, hb, hml, hown, hts⟩ (c_S_size l D g q kS vS bS llS lvS lhS mvS  _ hw _) (cwV 0 hts gL_law_X0_size rfl rfl rfl (by decide +kernel) ⟨Nat.le_of_ble_eq_true rfl, Nat.le_of_ble_eq_true rfl⟩) (va_recv hK hP (ci := 0) (q0 := 0) rfl rfl) (hK.sub (tys' := tS q) [0, 1, 2] rfl) hP hD hS hA rfl rfl rfl (by decide) (by decide) (by decide) rfl hl.1 rfl (Nat.le_of_ble_eq_true rfl) dL_law_871 ⟨Nat.le_of_ble_eq_true rfl, Nat.le_of_ble_eq_true rfl⟩ (fun r_123 u H locs hw hP hD hS => ?_)
        try dsimp only at hw
        replace hP : va_P D vwCl (wL g q h z kS vS bS llS lvS lhS mvS leM ceM fM kM vM wiM moM waM wkM wvM) H := hP.sub [6, 7, 8, 9, 0, 1, 2, 3, 4, 5] rfl
        replace hD : va_D (fun q : Nat => s.heap.size ≤ q) (wL g q h z kS vS bS llS lvS lhS mvS leM ceM fM kM vM wiM moM waM wkM wvM) := hD.sub [6, 7, 8, 9, 0, 1, 2, 3, 4, 5] (by decide) rfl
        refine lv_aload_n hx hb dL_law_874 rfl (lv_at hl 2 rfl) ?_
        refine q_callVi (As := []) (rest := [.int r_123]) (wr := (wS g q kS vS bS llS lvS lhS mvS)) [4, 5, 6, 7, 8, 9] [0, 1, 2, 3] ⟨hx, hb, hml, hown, hts⟩ (c_M_size l D h z leM ceM fM kM vM wiM moM waM wkM wvM  _ hw _) (cwV 0 hts gL_law_X1_size rfl rfl rfl (by decide +kernel) ⟨Nat.le_of_ble_eq_true rfl, Nat.le_of_ble_eq_true rfl⟩) (va_recv hK hP (ci := 1) (q0 := 4) rfl rfl) (hK.sub (tys' := tM z) [3, 4, 5, 6, 7] rfl) hP hD hS hA rfl rfl rfl (by decide) (by decide) (by decide) rfl hl.1 rfl (Nat.le_of_ble_eq_true rfl) dL_law_875 ⟨Nat.le_of_ble_eq_true rfl, Nat.le_of_ble_eq_true rfl⟩ (fun r_124 u H locs hw hP hD hS => ?_)
        try dsimp only at hw
        replace hP : va_P D vwCl (wL g q h z kS vS bS llS lvS lhS mvS leM ceM fM kM vM wiM moM waM wkM wvM) H := hP
        replace hD : va_D (fun q : Nat => s.heap.size ≤ q) (wL g q h z kS vS bS llS lvS lhS mvS leM ceM fM kM vM wiM moM waM wkM wvM) := hD
        refine lv_icmp_eq (tgt := 1057) hx hb dL_law_878 (by decide) (fun c_125 => ?_) (fun c_125 => ?_)
        · replace hw := hw.1 c_125
          refine lv_iinc (v := (x3 + 6)) (lv' := [(3, .int (x3 + 6)), (0, .ref b), (1, .ref (g 0)), (2, .ref (h 0))]) hx hb dL_law_1057 hl (k := 3) rfl rfl (by decide) rfl (fun ls hl => ?_)
          refine lv_goto (tgt := 28) hx hb dL_law_1060 (by decide) ?_
          exact ih (x3 + 6) kS vS bS lvS lhS mvS ceM fM kM vM wiM moM waM wkM wvM hw _ _ ls hP hD hS (lv_sub hl [1, 2, 3, 0] rfl)
        · replace hw := hw.2 c_125
          refine lv_iconst (v := 0) hx hb dL_law_881 (by decide) ?_
          exact False.elim hw
      · refine lv_tableIn (tgt := 883) (off := 840) hx hb dL_law_43 (by rw [ej]; decide) (by rw [ej]; decide) (by rw [ej]; rfl) (by decide) ?_
        replace hw := hw.2.2.2.2.2.2.2.2.2.2.2.2.1 ej
        refine lv_aload_n hx hb dL_law_883 rfl (lv_at hl 1 rfl) ?_
        refine q_callVi (As := []) (rest := []) (wr := (wM h z leM ceM fM kM vM wiM moM waM wkM wvM)) [0, 1, 2, 3] [4, 5, 6, 7, 8, 9] ⟨hx, hb, hml, hown, hts⟩ (c_S_cells l D g q kS vS bS llS lvS lhS mvS  _ hw _) (cwV 0 hts gL_law_X0_cells rfl rfl rfl (by decide +kernel) ⟨Nat.le_of_ble_eq_true rfl, Nat.le_of_ble_eq_true rfl⟩) (va_recv hK hP (ci := 0) (q0 := 0) rfl rfl) (hK.sub (tys' := tS q) [0, 1, 2] rfl) hP hD hS hA rfl rfl rfl (by decide) (by decide) (by decide) rfl hl.1 rfl (Nat.le_of_ble_eq_true rfl) dL_law_884 ⟨Nat.le_of_ble_eq_true rfl, Nat.le_of_ble_eq_true rfl⟩ (fun r_126 u H locs hw hP hD hS => ?_)
        try dsimp only at hw
        replace hP : va_P D vwCl (wL g q h z kS vS bS llS lvS lhS mvS leM ceM fM kM vM wiM moM waM wkM wvM) H := hP.sub [6, 7, 8, 9, 0, 1, 2, 3, 4, 5] rfl
        replace hD : va_D (fun q : Nat => s.heap.size ≤ q) (wL g q h z kS vS bS llS lvS lhS mvS leM ceM fM kM vM wiM moM waM wkM wvM) := hD.sub [6, 7, 8, 9, 0, 1, 2, 3, 4, 5] (by decide) rfl
        refine lv_aload_n hx hb dL_law_887 rfl (lv_at hl 2 rfl) ?_
        refine q_callVi (As := []) (rest := [.int r_126]) (wr := (wS g q kS vS bS llS lvS lhS mvS)) [4, 5, 6, 7, 8, 9] [0, 1, 2, 3] ⟨hx, hb, hml, hown, hts⟩ (c_M_cells l D h z leM ceM fM kM vM wiM moM waM wkM wvM  _ hw _) (cwV 0 hts gL_law_X1_cells rfl rfl rfl (by decide +kernel) ⟨Nat.le_of_ble_eq_true rfl, Nat.le_of_ble_eq_true rfl⟩) (va_recv hK hP (ci := 1) (q0 := 4) rfl rfl) (hK.sub (tys' := tM z) [3, 4, 5, 6, 7] rfl) hP hD hS hA rfl rfl rfl (by decide) (by decide) (by decide) rfl hl.1 rfl (Nat.le_of_ble_eq_true rfl) dL_law_888 ⟨Nat.le_of_ble_eq_true rfl, Nat.le_of_ble_eq_true rfl⟩ (fun r_127 u H locs hw hP hD hS => ?_)
        try dsimp only at hw
        replace hP : va_P D vwCl (wL g q h z kS vS bS llS lvS lhS mvS leM ceM fM kM vM wiM moM waM wkM wvM) H := hP
        replace hD : va_D (fun q : Nat => s.heap.size ≤ q) (wL g q h z kS vS bS llS lvS lhS mvS leM ceM fM kM vM wiM moM waM wkM wvM) := hD
        refine lv_icmp_eq (tgt := 1057) hx hb dL_law_891 (by decide) (fun c_128 => ?_) (fun c_128 => ?_)
        · replace hw := hw.1 c_128
          refine lv_iinc (v := (x3 + 6)) (lv' := [(3, .int (x3 + 6)), (0, .ref b), (1, .ref (g 0)), (2, .ref (h 0))]) hx hb dL_law_1057 hl (k := 3) rfl rfl (by decide) rfl (fun ls hl => ?_)
          refine lv_goto (tgt := 28) hx hb dL_law_1060 (by decide) ?_
          exact ih (x3 + 6) kS vS bS lvS lhS mvS ceM fM kM vM wiM moM waM wkM wvM hw _ _ ls hP hD hS (lv_sub hl [1, 2, 3, 0] rfl)
        · replace hw := hw.2 c_128
          refine lv_iconst (v := 0) hx hb dL_law_894 (by decide) ?_
          exact False.elim hw
      · refine lv_tableIn (tgt := 896) (off := 853) hx hb dL_law_43 (by rw [ej]; decide) (by rw [ej]; decide) (by rw [ej]; rfl) (by decide) ?_
        replace hw := hw.2.2.2.2.2.2.2.2.2.2.2.2.2.1 ej
        refine lv_aload_n hx hb dL_law_896 rfl (lv_at hl 1 rfl) ?_
        refine lv_aload_n hx hb dL_law_897 rfl (lv_at hl 0 rfl) ?_
        refine lv_iload_n hx hb dL_law_898 rfl (lv_at hl 3 rfl) ?_
        refine lv_iconst (v := 1) hx hb dL_law_899 (by decide) ?_
        refine lv_iadd hx hb dL_law_900 ?_
        obtain ⟨hi_129, hw⟩ := hw
        refine va_sld hx hb hX hbl hbA hS hi_129 dL_law_901 ?_
        refine q_callVl (As := [.int (xs (x3 + 1).toNatClampNeg)]) (rest := []) (wr := (wM h z leM ceM fM kM vM wiM moM waM wkM wvM)) [0, 1, 2, 3] [4, 5, 6, 7, 8, 9] ⟨hx, hb, hml, hown, hts⟩ (c_S_cellKey l D g q kS vS bS llS lvS lhS mvS (xs (x3 + 1).toNatClampNeg) _ hw _) (cwV 1 hts gL_law_X0_cellKey rfl rfl rfl (by decide +kernel) ⟨Nat.le_of_ble_eq_true rfl, Nat.le_of_ble_eq_true rfl⟩) (va_recv hK hP (ci := 0) (q0 := 0) rfl rfl) (hK.sub (tys' := tS q) [0, 1, 2] rfl) hP hD hS hA rfl rfl rfl (by decide) (by decide) (by decide) rfl hl.1 rfl (Nat.le_of_ble_eq_true rfl) dL_law_902 ⟨Nat.le_of_ble_eq_true rfl, Nat.le_of_ble_eq_true rfl⟩ (fun r_130 u H locs hw hP hD hS => ?_)
        try dsimp only at hw
        replace hP : va_P D vwCl (wL g q h z kS vS bS llS lvS lhS mvS leM ceM fM kM vM wiM moM waM wkM wvM) H := hP.sub [6, 7, 8, 9, 0, 1, 2, 3, 4, 5] rfl
        replace hD : va_D (fun q : Nat => s.heap.size ≤ q) (wL g q h z kS vS bS llS lvS lhS mvS leM ceM fM kM vM wiM moM waM wkM wvM) := hD.sub [6, 7, 8, 9, 0, 1, 2, 3, 4, 5] (by decide) rfl
        refine lv_aload_n hx hb dL_law_905 rfl (lv_at hl 2 rfl) ?_
        refine lv_aload_n hx hb dL_law_906 rfl (lv_at hl 0 rfl) ?_
        refine lv_iload_n hx hb dL_law_907 rfl (lv_at hl 3 rfl) ?_
        refine lv_iconst (v := 1) hx hb dL_law_908 (by decide) ?_
        refine lv_iadd hx hb dL_law_909 ?_
        refine va_sld hx hb hX hbl hbA hS hi_129 dL_law_910 ?_
        refine q_callVl (As := [.int (xs (x3 + 1).toNatClampNeg)]) (rest := [.long r_130]) (wr := (wS g q kS vS bS llS lvS lhS mvS)) [4, 5, 6, 7, 8, 9] [0, 1, 2, 3] ⟨hx, hb, hml, hown, hts⟩ (c_M_cellKey l D h z leM ceM fM kM vM wiM moM waM wkM wvM (xs (x3 + 1).toNatClampNeg) _ hw _) (cwV 1 hts gL_law_X1_cellKey rfl rfl rfl (by decide +kernel) ⟨Nat.le_of_ble_eq_true rfl, Nat.le_of_ble_eq_true rfl⟩) (va_recv hK hP (ci := 1) (q0 := 4) rfl rfl) (hK.sub (tys' := tM z) [3, 4, 5, 6, 7] rfl) hP hD hS hA rfl rfl rfl (by decide) (by decide) (by decide) rfl hl.1 rfl (Nat.le_of_ble_eq_true rfl) dL_law_911 ⟨Nat.le_of_ble_eq_true rfl, Nat.le_of_ble_eq_true rfl⟩ (fun r_131 u H locs hw hP hD hS => ?_)
        try dsimp only at hw
        replace hP : va_P D vwCl (wL g q h z kS vS bS llS lvS lhS mvS leM ceM fM kM vM wiM moM waM wkM wvM) H := hP
        replace hD : va_D (fun q : Nat => s.heap.size ≤ q) (wL g q h z kS vS bS llS lvS lhS mvS leM ceM fM kM vM wiM moM waM wkM wvM) := hD
        refine q_lc_eq (tgt := 1057) hx hb dL_law_914 dL_law_915 (by decide) (fun c_132 => ?_) (fun c_132 => ?_)
        · replace hw := hw.1 c_132
          refine lv_iinc (v := (x3 + 6)) (lv' := [(3, .int (x3 + 6)), (0, .ref b), (1, .ref (g 0)), (2, .ref (h 0))]) hx hb dL_law_1057 hl (k := 3) rfl rfl (by decide) rfl (fun ls hl => ?_)
          refine lv_goto (tgt := 28) hx hb dL_law_1060 (by decide) ?_
          exact ih (x3 + 6) kS vS bS lvS lhS mvS ceM fM kM vM wiM moM waM wkM wvM hw _ _ ls hP hD hS (lv_sub hl [1, 2, 3, 0] rfl)
        · replace hw := hw.2 c_132
          refine lv_iconst (v := 0) hx hb dL_law_918 (by decide) ?_
          exact False.elim hw
      · refine lv_tableIn (tgt := 920) (off := 877) hx hb dL_law_43 (by rw [ej]; decide) (by rw [ej]; decide) (by rw [ej]; rfl) (by decide) ?_
        replace hw := hw.2.2.2.2.2.2.2.2.2.2.2.2.2.2.1 ej
        refine lv_aload_n hx hb dL_law_920 rfl (lv_at hl 1 rfl) ?_
        refine lv_aload_n hx hb dL_law_921 rfl (lv_at hl 0 rfl) ?_
        refine lv_iload_n hx hb dL_law_922 rfl (lv_at hl 3 rfl) ?_
        refine lv_iconst (v := 1) hx hb dL_law_923 (by decide) ?_
        refine lv_iadd hx hb dL_law_924 ?_
        obtain ⟨hi_133, hw⟩ := hw
        refine va_sld hx hb hX hbl hbA hS hi_133 dL_law_925 ?_
        refine q_callVi (As := [.int (xs (x3 + 1).toNatClampNeg)]) (rest := []) (wr := (wM h z leM ceM fM kM vM wiM moM waM wkM wvM)) [0, 1, 2, 3] [4, 5, 6, 7, 8, 9] ⟨hx, hb, hml, hown, hts⟩ (c_S_place l D g q kS vS bS llS lvS lhS mvS (xs (x3 + 1).toNatClampNeg) _ hw _) (cwV 1 hts gL_law_X0_place rfl rfl rfl (by decide +kernel) ⟨Nat.le_of_ble_eq_true rfl, Nat.le_of_ble_eq_true rfl⟩) (va_recv hK hP (ci := 0) (q0 := 0) rfl rfl) (hK.sub (tys' := tS q) [0, 1, 2] rfl) hP hD hS hA rfl rfl rfl (by decide) (by decide) (by decide) rfl hl.1 rfl (Nat.le_of_ble_eq_true rfl) dL_law_926 ⟨Nat.le_of_ble_eq_true rfl, Nat.le_of_ble_eq_true rfl⟩ (fun r_134 u H locs hw hP hD hS => ?_)
        try dsimp only at hw
        replace hP : va_P D vwCl (wL g q h z kS vS bS llS lvS lhS mvS leM ceM fM kM vM wiM moM waM wkM wvM) H := hP.sub [6, 7, 8, 9, 0, 1, 2, 3, 4, 5] rfl
        replace hD : va_D (fun q : Nat => s.heap.size ≤ q) (wL g q h z kS vS bS llS lvS lhS mvS leM ceM fM kM vM wiM moM waM wkM wvM) := hD.sub [6, 7, 8, 9, 0, 1, 2, 3, 4, 5] (by decide) rfl
        refine lv_aload_n hx hb dL_law_929 rfl (lv_at hl 2 rfl) ?_
        refine lv_aload_n hx hb dL_law_930 rfl (lv_at hl 0 rfl) ?_
        refine lv_iload_n hx hb dL_law_931 rfl (lv_at hl 3 rfl) ?_
        refine lv_iconst (v := 1) hx hb dL_law_932 (by decide) ?_
        refine lv_iadd hx hb dL_law_933 ?_
        refine va_sld hx hb hX hbl hbA hS hi_133 dL_law_934 ?_
        refine q_callVi (As := [.int (xs (x3 + 1).toNatClampNeg)]) (rest := [.int r_134]) (wr := (wS g q kS vS bS llS lvS lhS mvS)) [4, 5, 6, 7, 8, 9] [0, 1, 2, 3] ⟨hx, hb, hml, hown, hts⟩ (c_M_place l D h z leM ceM fM kM vM wiM moM waM wkM wvM (xs (x3 + 1).toNatClampNeg) _ hw _) (cwV 1 hts gL_law_X1_place rfl rfl rfl (by decide +kernel) ⟨Nat.le_of_ble_eq_true rfl, Nat.le_of_ble_eq_true rfl⟩) (va_recv hK hP (ci := 1) (q0 := 4) rfl rfl) (hK.sub (tys' := tM z) [3, 4, 5, 6, 7] rfl) hP hD hS hA rfl rfl rfl (by decide) (by decide) (by decide) rfl hl.1 rfl (Nat.le_of_ble_eq_true rfl) dL_law_935 ⟨Nat.le_of_ble_eq_true rfl, Nat.le_of_ble_eq_true rfl⟩ (fun r_135 u H locs hw hP hD hS => ?_)
        try dsimp only at hw
        replace hP : va_P D vwCl (wL g q h z kS vS bS llS lvS lhS mvS leM ceM fM kM vM wiM moM waM wkM wvM) H := hP
        replace hD : va_D (fun q : Nat => s.heap.size ≤ q) (wL g q h z kS vS bS llS lvS lhS mvS leM ceM fM kM vM wiM moM waM wkM wvM) := hD
        refine lv_icmp_eq (tgt := 1057) hx hb dL_law_938 (by decide) (fun c_136 => ?_) (fun c_136 => ?_)
        · replace hw := hw.1 c_136
          refine lv_iinc (v := (x3 + 6)) (lv' := [(3, .int (x3 + 6)), (0, .ref b), (1, .ref (g 0)), (2, .ref (h 0))]) hx hb dL_law_1057 hl (k := 3) rfl rfl (by decide) rfl (fun ls hl => ?_)
          refine lv_goto (tgt := 28) hx hb dL_law_1060 (by decide) ?_
          exact ih (x3 + 6) kS vS bS lvS lhS mvS ceM fM kM vM wiM moM waM wkM wvM hw _ _ ls hP hD hS (lv_sub hl [1, 2, 3, 0] rfl)
        · replace hw := hw.2 c_136
          refine lv_iconst (v := 0) hx hb dL_law_941 (by decide) ?_
          exact False.elim hw
      · refine lv_tableIn (tgt := 943) (off := 900) hx hb dL_law_43 (by rw [ej]; decide) (by rw [ej]; decide) (by rw [ej]; rfl) (by decide) ?_
        replace hw := hw.2.2.2.2.2.2.2.2.2.2.2.2.2.2.2.1 ej
        refine lv_aload_n hx hb dL_law_943 rfl (lv_at hl 1 rfl) ?_
        refine lv_aload_n hx hb dL_law_944 rfl (lv_at hl 0 rfl) ?_
        refine lv_iload_n hx hb dL_law_945 rfl (lv_at hl 3 rfl) ?_
        refine lv_iconst (v := 1) hx hb dL_law_946 (by decide) ?_
        refine lv_iadd hx hb dL_law_947 ?_
        obtain ⟨hi_137, hw⟩ := hw
        refine va_sld hx hb hX hbl hbA hS hi_137 dL_law_948 ?_
        refine q_callVl (As := [.int (xs (x3 + 1).toNatClampNeg)]) (rest := []) (wr := (wM h z leM ceM fM kM vM wiM moM waM wkM wvM)) [0, 1, 2, 3] [4, 5, 6, 7, 8, 9] ⟨hx, hb, hml, hown, hts⟩ (c_S_borne l D g q kS vS bS llS lvS lhS mvS (xs (x3 + 1).toNatClampNeg) _ hw _) (cwV 1 hts gL_law_X0_borne rfl rfl rfl (by decide +kernel) ⟨Nat.le_of_ble_eq_true rfl, Nat.le_of_ble_eq_true rfl⟩) (va_recv hK hP (ci := 0) (q0 := 0) rfl rfl) (hK.sub (tys' := tS q) [0, 1, 2] rfl) hP hD hS hA rfl rfl rfl (by decide) (by decide) (by decide) rfl hl.1 rfl (Nat.le_of_ble_eq_true rfl) dL_law_949 ⟨Nat.le_of_ble_eq_true rfl, Nat.le_of_ble_eq_true rfl⟩ (fun r_138 u H locs hw hP hD hS => ?_)
        try dsimp only at hw
        replace hP : va_P D vwCl (wL g q h z kS vS bS llS lvS lhS mvS leM ceM fM kM vM wiM moM waM wkM wvM) H := hP.sub [6, 7, 8, 9, 0, 1, 2, 3, 4, 5] rfl
        replace hD : va_D (fun q : Nat => s.heap.size ≤ q) (wL g q h z kS vS bS llS lvS lhS mvS leM ceM fM kM vM wiM moM waM wkM wvM) := hD.sub [6, 7, 8, 9, 0, 1, 2, 3, 4, 5] (by decide) rfl
        refine lv_aload_n hx hb dL_law_952 rfl (lv_at hl 2 rfl) ?_
        refine lv_aload_n hx hb dL_law_953 rfl (lv_at hl 0 rfl) ?_
        refine lv_iload_n hx hb dL_law_954 rfl (lv_at hl 3 rfl) ?_
        refine lv_iconst (v := 1) hx hb dL_law_955 (by decide) ?_
        refine lv_iadd hx hb dL_law_956 ?_
        refine va_sld hx hb hX hbl hbA hS hi_137 dL_law_957 ?_
        refine q_callVl (As := [.int (xs (x3 + 1).toNatClampNeg)]) (rest := [.long r_138]) (wr := (wS g q kS vS bS llS lvS lhS mvS)) [4, 5, 6, 7, 8, 9] [0, 1, 2, 3] ⟨hx, hb, hml, hown, hts⟩ (c_M_borne l D h z leM ceM fM kM vM wiM moM waM wkM wvM (xs (x3 + 1).toNatClampNeg) _ hw _) (cwV 1 hts gL_law_X1_borne rfl rfl rfl (by decide +kernel) ⟨Nat.le_of_ble_eq_true rfl, Nat.le_of_ble_eq_true rfl⟩) (va_recv hK hP (ci := 1) (q0 := 4) rfl rfl) (hK.sub (tys' := tM z) [3, 4, 5, 6, 7] rfl) hP hD hS hA rfl rfl rfl (by decide) (by decide) (by decide) rfl hl.1 rfl (Nat.le_of_ble_eq_true rfl) dL_law_958 ⟨Nat.le_of_ble_eq_true rfl, Nat.le_of_ble_eq_true rfl⟩ (fun r_139 u H locs hw hP hD hS => ?_)
        try dsimp only at hw
        replace hP : va_P D vwCl (wL g q h z kS vS bS llS lvS lhS mvS leM ceM fM kM vM wiM moM waM wkM wvM) H := hP
        replace hD : va_D (fun q : Nat => s.heap.size ≤ q) (wL g q h z kS vS bS llS lvS lhS mvS leM ceM fM kM vM wiM moM waM wkM wvM) := hD
        refine q_lc_eq (tgt := 1057) hx hb dL_law_961 dL_law_962 (by decide) (fun c_140 => ?_) (fun c_140 => ?_)
        · replace hw := hw.1 c_140
          refine lv_iinc (v := (x3 + 6)) (lv' := [(3, .int (x3 + 6)), (0, .ref b), (1, .ref (g 0)), (2, .ref (h 0))]) hx hb dL_law_1057 hl (k := 3) rfl rfl (by decide) rfl (fun ls hl => ?_)
          refine lv_goto (tgt := 28) hx hb dL_law_1060 (by decide) ?_
          exact ih (x3 + 6) kS vS bS lvS lhS mvS ceM fM kM vM wiM moM waM wkM wvM hw _ _ ls hP hD hS (lv_sub hl [1, 2, 3, 0] rfl)
        · replace hw := hw.2 c_140
          refine lv_iconst (v := 0) hx hb dL_law_965 (by decide) ?_
          exact False.elim hw
      · refine lv_tableIn (tgt := 967) (off := 924) hx hb dL_law_43 (by rw [ej]; decide) (by rw [ej]; decide) (by rw [ej]; rfl) (by decide) ?_
        replace hw := hw.2.2.2.2.2.2.2.2.2.2.2.2.2.2.2.2.1 ej
        refine lv_aload_n hx hb dL_law_967 rfl (lv_at hl 1 rfl) ?_
        refine lv_aload_n hx hb dL_law_968 rfl (lv_at hl 0 rfl) ?_
        refine lv_iload_n hx hb dL_law_969 rfl (lv_at hl 3 rfl) ?_
        refine lv_iconst (v := 1) hx hb dL_law_970 (by decide) ?_
        refine lv_iadd hx hb dL_law_971 ?_
        obtain ⟨hi_141, hw⟩ := hw
        refine va_sld hx hb hX hbl hbA hS hi_141 dL_law_972 ?_
        refine lv_i2l hx hb dL_law_973 rfl ?_
        refine lv_bipush (v := 32) hx hb dL_law_974 (by decide) ?_
        refine lv_lshl hx hb dL_law_976 rfl ?_
        refine lv_aload_n hx hb dL_law_977 rfl (lv_at hl 0 rfl) ?_
        refine lv_iload_n hx hb dL_law_978 rfl (lv_at hl 3 rfl) ?_
        refine lv_iconst (v := 2) hx hb dL_law_979 (by decide) ?_
        refine lv_iadd hx hb dL_law_980 ?_
        obtain ⟨hi_142, hw⟩ := hw
        refine va_sld hx hb hX hbl hbA hS hi_142 dL_law_981 ?_
        refine lv_i2l hx hb dL_law_982 rfl ?_
        refine lv_ldc2 (v := 4294967295) hx hb hown (hts _ tcn_L_21) dL_law_983 ?_
        refine lv_land hx hb dL_law_986 ?_
        refine lv_lor hx hb dL_law_987 ?_
        refine lv_aload_n hx hb dL_law_988 rfl (lv_at hl 0 rfl) ?_
        refine lv_iload_n hx hb dL_law_989 rfl (lv_at hl 3 rfl) ?_
        refine lv_iconst (v := 3) hx hb dL_law_990 (by decide) ?_
        refine lv_iadd hx hb dL_law_991 ?_
        obtain ⟨hi_143, hw⟩ := hw
        refine va_sld hx hb hX hbl hbA hS hi_143 dL_law_992 ?_
        refine q_callVi (As := [.long (((xs (x3 + 1).toNatClampNeg).toInt64 <<< ((32 : Int32).toInt64 &&& 63)) ||| ((xs (x3 + 2).toNatClampNeg).toInt64 &&& 4294967295)), .int (xs (x3 + 3).toNatClampNeg)]) (rest := []) (wr := (wM h z leM ceM fM kM vM wiM moM waM wkM wvM)) [0, 1, 2, 3] [4, 5, 6, 7, 8, 9] ⟨hx, hb, hml, hown, hts⟩ (c_S_touched l D g q kS vS bS llS lvS lhS mvS (((xs (x3 + 1).toNatClampNeg).toInt64 <<< ((32 : Int32).toInt64 &&& 63)) ||| ((xs (x3 + 2).toNatClampNeg).toInt64 &&& 4294967295)) (xs (x3 + 3).toNatClampNeg) _ hw _) (cwV 2 hts gL_law_X0_touched rfl rfl rfl (by decide +kernel) ⟨Nat.le_of_ble_eq_true rfl, Nat.le_of_ble_eq_true rfl⟩) (va_recv hK hP (ci := 0) (q0 := 0) rfl rfl) (hK.sub (tys' := tS q) [0, 1, 2] rfl) hP hD hS hA rfl rfl rfl (by decide) (by decide) (by decide) rfl hl.1 rfl (Nat.le_of_ble_eq_true rfl) dL_law_993 ⟨Nat.le_of_ble_eq_true rfl, Nat.le_of_ble_eq_true rfl⟩ (fun r_144 bS_145 H locs hw hP hD hS => ?_)
        try dsimp only at hw
        replace hP : va_P D vwCl (wL g q h z kS vS bS_145 llS lvS lhS mvS leM ceM fM kM vM wiM moM waM wkM wvM) H := hP.sub [6, 7, 8, 9, 0, 1, 2, 3, 4, 5] rfl
        replace hD : va_D (fun q : Nat => s.heap.size ≤ q) (wL g q h z kS vS bS_145 llS lvS lhS mvS leM ceM fM kM vM wiM moM waM wkM wvM) := hD.sub [6, 7, 8, 9, 0, 1, 2, 3, 4, 5] (by decide) rfl
        refine lv_aload_n hx hb dL_law_996 rfl (lv_at hl 2 rfl) ?_
        refine lv_aload_n hx hb dL_law_997 rfl (lv_at hl 0 rfl) ?_
        refine lv_iload_n hx hb dL_law_998 rfl (lv_at hl 3 rfl) ?_
        refine lv_iconst (v := 1) hx hb dL_law_999 (by decide) ?_
        refine lv_iadd hx hb dL_law_1000 ?_
        refine va_sld hx hb hX hbl hbA hS hi_141 dL_law_1001 ?_
        refine lv_i2l hx hb dL_law_1002 rfl ?_
        refine lv_bipush (v := 32) hx hb dL_law_1003 (by decide) ?_
        refine lv_lshl hx hb dL_law_1005 rfl ?_
        refine lv_aload_n hx hb dL_law_1006 rfl (lv_at hl 0 rfl) ?_
        refine lv_iload_n hx hb dL_law_1007 rfl (lv_at hl 3 rfl) ?_
        refine lv_iconst (v := 2) hx hb dL_law_1008 (by decide) ?_
        refine lv_iadd hx hb dL_law_1009 ?_
        refine va_sld hx hb hX hbl hbA hS hi_142 dL_law_1010 ?_
        refine lv_i2l hx hb dL_law_1011 rfl ?_
        refine lv_ldc2 (v := 4294967295) hx hb hown (hts _ tcn_L_21) dL_law_1012 ?_
        refine lv_land hx hb dL_law_1015 ?_
        refine lv_lor hx hb dL_law_1016 ?_
        refine lv_aload_n hx hb dL_law_1017 rfl (lv_at hl 0 rfl) ?_
        refine lv_iload_n hx hb dL_law_1018 rfl (lv_at hl 3 rfl) ?_
        refine lv_iconst (v := 3) hx hb dL_law_1019 (by decide) ?_
        refine lv_iadd hx hb dL_law_1020 ?_
        refine va_sld hx hb hX hbl hbA hS hi_143 dL_law_1021 ?_
        refine q_callVi (As := [.long (((xs (x3 + 1).toNatClampNeg).toInt64 <<< ((32 : Int32).toInt64 &&& 63)) ||| ((xs (x3 + 2).toNatClampNeg).toInt64 &&& 4294967295)), .int (xs (x3 + 3).toNatClampNeg)]) (rest := [.int r_144]) (wr := (wS g q kS vS bS_145 llS lvS lhS mvS)) [4, 5, 6, 7, 8, 9] [0, 1, 2, 3] ⟨hx, hb, hml, hown, hts⟩ (c_M_touched l D h z leM ceM fM kM vM wiM moM waM wkM wvM (((xs (x3 + 1).toNatClampNeg).toInt64 <<< ((32 : Int32).toInt64 &&& 63)) ||| ((xs (x3 + 2).toNatClampNeg).toInt64 &&& 4294967295)) (xs (x3 + 3).toNatClampNeg) _ hw _) (cwV 2 hts gL_law_X1_touched rfl rfl rfl (by decide +kernel) ⟨Nat.le_of_ble_eq_true rfl, Nat.le_of_ble_eq_true rfl⟩) (va_recv hK hP (ci := 1) (q0 := 4) rfl rfl) (hK.sub (tys' := tM z) [3, 4, 5, 6, 7] rfl) hP hD hS hA rfl rfl rfl (by decide) (by decide) (by decide) rfl hl.1 rfl (Nat.le_of_ble_eq_true rfl) dL_law_1022 ⟨Nat.le_of_ble_eq_true rfl, Nat.le_of_ble_eq_true rfl⟩ (fun r_146 u H locs hw hP hD hS => ?_)
        try dsimp only at hw
        replace hP : va_P D vwCl (wL g q h z kS vS bS_145 llS lvS lhS mvS leM ceM fM kM vM wiM moM waM wkM wvM) H := hP
        replace hD : va_D (fun q : Nat => s.heap.size ≤ q) (wL g q h z kS vS bS_145 llS lvS lhS mvS leM ceM fM kM vM wiM moM waM wkM wvM) := hD
        refine lv_icmp_eq (tgt := 1057) hx hb dL_law_1025 (by decide) (fun c_147 => ?_) (fun c_147 => ?_)
        · replace hw := hw.1 c_147
          refine lv_iinc (v := (x3 + 6)) (lv' := [(3, .int (x3 + 6)), (0, .ref b), (1, .ref (g 0)), (2, .ref (h 0))]) hx hb dL_law_1057 hl (k := 3) rfl rfl (by decide) rfl (fun ls hl => ?_)
          refine lv_goto (tgt := 28) hx hb dL_law_1060 (by decide) ?_
          exact ih (x3 + 6) kS vS bS_145 lvS lhS mvS ceM fM kM vM wiM moM waM wkM wvM hw _ _ ls hP hD hS (lv_sub hl [1, 2, 3, 0] rfl)
        · replace hw := hw.2 c_147
          refine lv_iconst (v := 0) hx hb dL_law_1028 (by decide) ?_
          exact False.elim hw
      · refine lv_tableIn (tgt := 1030) (off := 987) hx hb dL_law_43 (by rw [ej]; decide) (by rw [ej]; decide) (by rw [ej]; rfl) (by decide) ?_
        replace hw := hw.2.2.2.2.2.2.2.2.2.2.2.2.2.2.2.2.2.1 ej
        refine lv_aload_n hx hb dL_law_1030 rfl (lv_at hl 1 rfl) ?_
        refine q_callVi (As := []) (rest := []) (wr := (wM h z leM ceM fM kM vM wiM moM waM wkM wvM)) [0, 1, 2, 3] [4, 5, 6, 7, 8, 9] ⟨hx, hb, hml, hown, hts⟩ (c_S_window l D g q kS vS bS llS lvS lhS mvS  _ hw _) (cwV 0 hts gL_law_X0_window rfl rfl rfl (by decide +kernel) ⟨Nat.le_of_ble_eq_true rfl, Nat.le_of_ble_eq_true rfl⟩) (va_recv hK hP (ci := 0) (q0 := 0) rfl rfl) (hK.sub (tys' := tS q) [0, 1, 2] rfl) hP hD hS hA rfl rfl rfl (by decide) (by decide) (by decide) rfl hl.1 rfl (Nat.le_of_ble_eq_true rfl) dL_law_1031 ⟨Nat.le_of_ble_eq_true rfl, Nat.le_of_ble_eq_true rfl⟩ (fun r_148 u H locs hw hP hD hS => ?_)
        try dsimp only at hw
        replace hP : va_P D vwCl (wL g q h z kS vS bS llS lvS lhS mvS leM ceM fM kM vM wiM moM waM wkM wvM) H := hP.sub [6, 7, 8, 9, 0, 1, 2, 3, 4, 5] rfl
        replace hD : va_D (fun q : Nat => s.heap.size ≤ q) (wL g q h z kS vS bS llS lvS lhS mvS leM ceM fM kM vM wiM moM waM wkM wvM) := hD.sub [6, 7, 8, 9, 0, 1, 2, 3, 4, 5] (by decide) rfl
        refine lv_aload_n hx hb dL_law_1034 rfl (lv_at hl 2 rfl) ?_
        refine q_callVi (As := []) (rest := [.int r_148]) (wr := (wS g q kS vS bS llS lvS lhS mvS)) [4, 5, 6, 7, 8, 9] [0, 1, 2, 3] ⟨hx, hb, hml, hown, hts⟩ (c_M_window l D h z leM ceM fM kM vM wiM moM waM wkM wvM  _ hw _) (cwV 0 hts gL_law_X1_window rfl rfl rfl (by decide +kernel) ⟨Nat.le_of_ble_eq_true rfl, Nat.le_of_ble_eq_true rfl⟩) (va_recv hK hP (ci := 1) (q0 := 4) rfl rfl) (hK.sub (tys' := tM z) [3, 4, 5, 6, 7] rfl) hP hD hS hA rfl rfl rfl (by decide) (by decide) (by decide) rfl hl.1 rfl (Nat.le_of_ble_eq_true rfl) dL_law_1035 ⟨Nat.le_of_ble_eq_true rfl, Nat.le_of_ble_eq_true rfl⟩ (fun r_149 u H locs hw hP hD hS => ?_)
        try dsimp only at hw
        replace hP : va_P D vwCl (wL g q h z kS vS bS llS lvS lhS mvS leM ceM fM kM vM wiM moM waM wkM wvM) H := hP
        replace hD : va_D (fun q : Nat => s.heap.size ≤ q) (wL g q h z kS vS bS llS lvS lhS mvS leM ceM fM kM vM wiM moM waM wkM wvM) := hD
        refine lv_icmp_eq (tgt := 1057) hx hb dL_law_1038 (by decide) (fun c_150 => ?_) (fun c_150 => ?_)
        · replace hw := hw.1 c_150
          refine lv_iinc (v := (x3 + 6)) (lv' := [(3, .int (x3 + 6)), (0, .ref b), (1, .ref (g 0)), (2, .ref (h 0))]) hx hb dL_law_1057 hl (k := 3) rfl rfl (by decide) rfl (fun ls hl => ?_)
          refine lv_goto (tgt := 28) hx hb dL_law_1060 (by decide) ?_
          exact ih (x3 + 6) kS vS bS lvS lhS mvS ceM fM kM vM wiM moM waM wkM wvM hw _ _ ls hP hD hS (lv_sub hl [1, 2, 3, 0] rfl)
        · replace hw := hw.2 c_150
          refine lv_iconst (v := 0) hx hb dL_law_1041 (by decide) ?_
          exact False.elim hw
      · refine lv_tableIn (tgt := 1043) (off := 1000) hx hb dL_law_43 (by rw [ej]; decide) (by rw [ej]; decide) (by rw [ej]; rfl) (by decide) ?_
        replace hw := hw.2.2.2.2.2.2.2.2.2.2.2.2.2.2.2.2.2.2.1 ej
        refine lv_aload_n hx hb dL_law_1043 rfl (lv_at hl 1 rfl) ?_
        refine q_callVl (As := []) (rest := []) (wr := (wM h z leM ceM fM kM vM wiM moM waM wkM wvM)) [0, 1, 2, 3] [4, 5, 6, 7, 8, 9] ⟨hx, hb, hml, hown, hts⟩ (c_S_moved l D g q kS vS bS llS lvS lhS mvS  _ hw _) (cwV 0 hts gL_law_X0_moved rfl rfl rfl (by decide +kernel) ⟨Nat.le_of_ble_eq_true rfl, Nat.le_of_ble_eq_true rfl⟩) (va_recv hK hP (ci := 0) (q0 := 0) rfl rfl) (hK.sub (tys' := tS q) [0, 1, 2] rfl) hP hD hS hA rfl rfl rfl (by decide) (by decide) (by decide) rfl hl.1 rfl (Nat.le_of_ble_eq_true rfl) dL_law_1044 ⟨Nat.le_of_ble_eq_true rfl, Nat.le_of_ble_eq_true rfl⟩ (fun r_151 u H locs hw hP hD hS => ?_)
        try dsimp only at hw
        replace hP : va_P D vwCl (wL g q h z kS vS bS llS lvS lhS mvS leM ceM fM kM vM wiM moM waM wkM wvM) H := hP.sub [6, 7, 8, 9, 0, 1, 2, 3, 4, 5] rfl
        replace hD : va_D (fun q : Nat => s.heap.size ≤ q) (wL g q h z kS vS bS llS lvS lhS mvS leM ceM fM kM vM wiM moM waM wkM wvM) := hD.sub [6, 7, 8, 9, 0, 1, 2, 3, 4, 5] (by decide) rfl
        refine lv_aload_n hx hb dL_law_1047 rfl (lv_at hl 2 rfl) ?_
        refine q_callVl (As := []) (rest := [.long r_151]) (wr := (wS g q kS vS bS llS lvS lhS mvS)) [4, 5, 6, 7, 8, 9] [0, 1, 2, 3] ⟨hx, hb, hml, hown, hts⟩ (c_M_moved l D h z leM ceM fM kM vM wiM moM waM wkM wvM  _ hw _) (cwV 0 hts gL_law_X1_moved rfl rfl rfl (by decide +kernel) ⟨Nat.le_of_ble_eq_true rfl, Nat.le_of_ble_eq_true rfl⟩) (va_recv hK hP (ci := 1) (q0 := 4) rfl rfl) (hK.sub (tys' := tM z) [3, 4, 5, 6, 7] rfl) hP hD hS hA rfl rfl rfl (by decide) (by decide) (by decide) rfl hl.1 rfl (Nat.le_of_ble_eq_true rfl) dL_law_1048 ⟨Nat.le_of_ble_eq_true rfl, Nat.le_of_ble_eq_true rfl⟩ (fun r_152 u H locs hw hP hD hS => ?_)
        try dsimp only at hw
        replace hP : va_P D vwCl (wL g q h z kS vS bS llS lvS lhS mvS leM ceM fM kM vM wiM moM waM wkM wvM) H := hP
        replace hD : va_D (fun q : Nat => s.heap.size ≤ q) (wL g q h z kS vS bS llS lvS lhS mvS leM ceM fM kM vM wiM moM waM wkM wvM) := hD
        refine q_lc_eq (tgt := 1057) hx hb dL_law_1051 dL_law_1052 (by decide) (fun c_153 => ?_) (fun c_153 => ?_)
        · replace hw := hw.1 c_153
          refine lv_iinc (v := (x3 + 6)) (lv' := [(3, .int (x3 + 6)), (0, .ref b), (1, .ref (g 0)), (2, .ref (h 0))]) hx hb dL_law_1057 hl (k := 3) rfl rfl (by decide) rfl (fun ls hl => ?_)
          refine lv_goto (tgt := 28) hx hb dL_law_1060 (by decide) ?_
          exact ih (x3 + 6) kS vS bS lvS lhS mvS ceM fM kM vM wiM moM waM wkM wvM hw _ _ ls hP hD hS (lv_sub hl [1, 2, 3, 0] rfl)
        · replace hw := hw.2 c_153
          refine lv_iconst (v := 0) hx hb dL_law_1055 (by decide) ?_
          exact False.elim hw
      · refine lv_tableOut (tgt := 1057) hx hb dL_law_43 (Or.inr (by rw [ej, nI_toInt (by omega)]; omega)) (by decide) ?_
        replace hw := hw.2.2.2.2.2.2.2.2.2.2.2.2.2.2.2.2.2.2.2
        refine lv_iinc (v := (x3 + 6)) (lv' := [(3, .int (x3 + 6)), (0, .ref b), (1, .ref (g 0)), (2, .ref (h 0))]) hx hb dL_law_1057 hl (k := 3) rfl rfl (by decide) rfl (fun ls hl => ?_)
        refine lv_goto (tgt := 28) hx hb dL_law_1060 (by decide) ?_
        exact ih (x3 + 6) kS vS bS lvS lhS mvS ceM fM kM vM wiM moM waM wkM wvM hw _ _ ls hP hD hS (lv_sub hl [1, 2, 3, 0] rfl)
