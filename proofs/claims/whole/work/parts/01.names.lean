def lw_okq (q : MethodName × Nat) : Prop := (q.1.cls ≠ "java/lang/invoke/MethodHandle" ∧ q.1.cls ≠ "java/lang/invoke/VarHandle") ∧ Cond.instantiable q.1.cls q.2 ∈ tables_1 ∧ Cond.privateMethod q.1 ∈ tables_1 ∧ Cond.instanceMethod q.1 ∈ tables_1
theorem lw_p0 : lw_okq (⟨"GappedStore", "cellOf", "(J)I"⟩, 7) := ⟨⟨by decide +kernel, by decide +kernel⟩, List.mem_of_getElem? (i := 5) (by decide +kernel), List.mem_of_getElem? (i := 45) (by decide +kernel), List.mem_of_getElem? (i := 46) (by decide +kernel)⟩
theorem lw_p1 : lw_okq (⟨"GappedStore", "cellNotBelow", "(J)I"⟩, 7) := ⟨⟨by decide +kernel, by decide +kernel⟩, List.mem_of_getElem? (i := 5) (by decide +kernel), List.mem_of_getElem? (i := 49) (by decide +kernel), List.mem_of_getElem? (i := 50) (by decide +kernel)⟩
theorem lw_p2 : lw_okq (⟨"GappedStore", "seek", "(J)I"⟩, 7) := ⟨⟨by decide +kernel, by decide +kernel⟩, List.mem_of_getElem? (i := 5) (by decide +kernel), List.mem_of_getElem? (i := 53) (by decide +kernel), List.mem_of_getElem? (i := 54) (by decide +kernel)⟩
theorem lw_p3 : lw_okq (⟨"GappedStore", "borneBy", "(I)J"⟩, 7) := ⟨⟨by decide +kernel, by decide +kernel⟩, List.mem_of_getElem? (i := 5) (by decide +kernel), List.mem_of_getElem? (i := 57) (by decide +kernel), List.mem_of_getElem? (i := 58) (by decide +kernel)⟩
theorem lw_p4 : lw_okq (⟨"GappedStore", "segments", "()I"⟩, 7) := ⟨⟨by decide +kernel, by decide +kernel⟩, List.mem_of_getElem? (i := 5) (by decide +kernel), List.mem_of_getElem? (i := 64) (by decide +kernel), List.mem_of_getElem? (i := 65) (by decide +kernel)⟩
theorem lw_p5 : lw_okq (⟨"GappedStore", "greatestKey", "(II)J"⟩, 7) := ⟨⟨by decide +kernel, by decide +kernel⟩, List.mem_of_getElem? (i := 5) (by decide +kernel), List.mem_of_getElem? (i := 71) (by decide +kernel), List.mem_of_getElem? (i := 72) (by decide +kernel)⟩
theorem lw_p6 : lw_okq (⟨"GappedStore", "putNew", "(JJ)Z"⟩, 7) := ⟨⟨by decide +kernel, by decide +kernel⟩, List.mem_of_getElem? (i := 5) (by decide +kernel), List.mem_of_getElem? (i := 75) (by decide +kernel), List.mem_of_getElem? (i := 76) (by decide +kernel)⟩
theorem lw_p7 : lw_okq (⟨"GappedStore", "heightWithRoom", "(I)I"⟩, 7) := ⟨⟨by decide +kernel, by decide +kernel⟩, List.mem_of_getElem? (i := 5) (by decide +kernel), List.mem_of_getElem? (i := 79) (by decide +kernel), List.mem_of_getElem? (i := 80) (by decide +kernel)⟩
theorem lw_p8 : lw_okq (⟨"GappedStore", "keysInWindow", "(II)I"⟩, 7) := ⟨⟨by decide +kernel, by decide +kernel⟩, List.mem_of_getElem? (i := 5) (by decide +kernel), List.mem_of_getElem? (i := 83) (by decide +kernel), List.mem_of_getElem? (i := 84) (by decide +kernel)⟩
theorem lw_p9 : lw_okq (⟨"GappedStore", "keysAmong", "(II)I"⟩, 7) := ⟨⟨by decide +kernel, by decide +kernel⟩, List.mem_of_getElem? (i := 5) (by decide +kernel), List.mem_of_getElem? (i := 90) (by decide +kernel), List.mem_of_getElem? (i := 91) (by decide +kernel)⟩
theorem lw_p10 : lw_okq (⟨"GappedStore", "mostKeys", "(I)I"⟩, 7) := ⟨⟨by decide +kernel, by decide +kernel⟩, List.mem_of_getElem? (i := 5) (by decide +kernel), List.mem_of_getElem? (i := 94) (by decide +kernel), List.mem_of_getElem? (i := 95) (by decide +kernel)⟩
theorem lw_p11 : lw_okq (⟨"GappedStore", "pack", "(II)I"⟩, 7) := ⟨⟨by decide +kernel, by decide +kernel⟩, List.mem_of_getElem? (i := 5) (by decide +kernel), List.mem_of_getElem? (i := 102) (by decide +kernel), List.mem_of_getElem? (i := 103) (by decide +kernel)⟩
theorem lw_p12 : lw_okq (⟨"GappedStore", "shift", "(II)V"⟩, 7) := ⟨⟨by decide +kernel, by decide +kernel⟩, List.mem_of_getElem? (i := 5) (by decide +kernel), List.mem_of_getElem? (i := 106) (by decide +kernel), List.mem_of_getElem? (i := 107) (by decide +kernel)⟩
theorem lw_p13 : lw_okq (⟨"GappedStore", "clear", "(I)V"⟩, 7) := ⟨⟨by decide +kernel, by decide +kernel⟩, List.mem_of_getElem? (i := 5) (by decide +kernel), List.mem_of_getElem? (i := 110) (by decide +kernel), List.mem_of_getElem? (i := 111) (by decide +kernel)⟩
theorem lw_p14 : lw_okq (⟨"GappedStore", "insertPacked", "(IIJJ)V"⟩, 7) := ⟨⟨by decide +kernel, by decide +kernel⟩, List.mem_of_getElem? (i := 5) (by decide +kernel), List.mem_of_getElem? (i := 114) (by decide +kernel), List.mem_of_getElem? (i := 115) (by decide +kernel)⟩
theorem lw_p15 : lw_okq (⟨"GappedStore", "spreadPacked", "(III)V"⟩, 7) := ⟨⟨by decide +kernel, by decide +kernel⟩, List.mem_of_getElem? (i := 5) (by decide +kernel), List.mem_of_getElem? (i := 118) (by decide +kernel), List.mem_of_getElem? (i := 119) (by decide +kernel)⟩
def lw_privs_1 : List (MethodName × Nat) := [(⟨"GappedStore", "cellOf", "(J)I"⟩, 7), (⟨"GappedStore", "cellNotBelow", "(J)I"⟩, 7), (⟨"GappedStore", "seek", "(J)I"⟩, 7), (⟨"GappedStore", "borneBy", "(I)J"⟩, 7), (⟨"GappedStore", "segments", "()I"⟩, 7), (⟨"GappedStore", "greatestKey", "(II)J"⟩, 7), (⟨"GappedStore", "putNew", "(JJ)Z"⟩, 7), (⟨"GappedStore", "heightWithRoom", "(I)I"⟩, 7), (⟨"GappedStore", "keysInWindow", "(II)I"⟩, 7), (⟨"GappedStore", "keysAmong", "(II)I"⟩, 7), (⟨"GappedStore", "mostKeys", "(I)I"⟩, 7), (⟨"GappedStore", "pack", "(II)I"⟩, 7), (⟨"GappedStore", "shift", "(II)V"⟩, 7), (⟨"GappedStore", "clear", "(I)V"⟩, 7), (⟨"GappedStore", "insertPacked", "(IIJJ)V"⟩, 7), (⟨"GappedStore", "spreadPacked", "(III)V"⟩, 7)]
theorem lw_r1 : ∀ q ∈ lw_privs_1, lw_okq q := List.forall_mem_cons.mpr ⟨lw_p0, List.forall_mem_cons.mpr ⟨lw_p1, List.forall_mem_cons.mpr ⟨lw_p2, List.forall_mem_cons.mpr ⟨lw_p3, List.forall_mem_cons.mpr ⟨lw_p4, List.forall_mem_cons.mpr ⟨lw_p5, List.forall_mem_cons.mpr ⟨lw_p6, List.forall_mem_cons.mpr ⟨lw_p7, List.forall_mem_cons.mpr ⟨lw_p8, List.forall_mem_cons.mpr ⟨lw_p9, List.forall_mem_cons.mpr ⟨lw_p10, List.forall_mem_cons.mpr ⟨lw_p11, List.forall_mem_cons.mpr ⟨lw_p12, List.forall_mem_cons.mpr ⟨lw_p13, List.forall_mem_cons.mpr ⟨lw_p14, List.forall_mem_cons.mpr ⟨lw_p15, fun _ h => absurd h List.not_mem_nil⟩⟩⟩⟩⟩⟩⟩⟩⟩⟩⟩⟩⟩⟩⟩⟩
theorem lw_p16 : lw_okq (⟨"GappedStore", "takeOut", "(I)V"⟩, 7) := ⟨⟨by decide +kernel, by decide +kernel⟩, List.mem_of_getElem? (i := 5) (by decide +kernel), List.mem_of_getElem? (i := 131) (by decide +kernel), List.mem_of_getElem? (i := 132) (by decide +kernel)⟩
theorem lw_p17 : lw_okq (⟨"GappedStore", "heightWithEnough", "(I)I"⟩, 7) := ⟨⟨by decide +kernel, by decide +kernel⟩, List.mem_of_getElem? (i := 5) (by decide +kernel), List.mem_of_getElem? (i := 135) (by decide +kernel), List.mem_of_getElem? (i := 136) (by decide +kernel)⟩
theorem lw_p18 : lw_okq (⟨"GappedStore", "fewestKeys", "(I)I"⟩, 7) := ⟨⟨by decide +kernel, by decide +kernel⟩, List.mem_of_getElem? (i := 5) (by decide +kernel), List.mem_of_getElem? (i := 139) (by decide +kernel), List.mem_of_getElem? (i := 140) (by decide +kernel)⟩
theorem lw_p19 : lw_okq (⟨"GappedStore", "halve", "()V"⟩, 7) := ⟨⟨by decide +kernel, by decide +kernel⟩, List.mem_of_getElem? (i := 5) (by decide +kernel), List.mem_of_getElem? (i := 143) (by decide +kernel), List.mem_of_getElem? (i := 144) (by decide +kernel)⟩
theorem lw_p20 : lw_okq (⟨"GappedStore", "isHeldBetween", "(IJJ)Z"⟩, 7) := ⟨⟨by decide +kernel, by decide +kernel⟩, List.mem_of_getElem? (i := 5) (by decide +kernel), List.mem_of_getElem? (i := 175) (by decide +kernel), List.mem_of_getElem? (i := 176) (by decide +kernel)⟩
theorem lw_p21 : lw_okq (⟨"GappedStore", "noteBlock", "(II)I"⟩, 7) := ⟨⟨by decide +kernel, by decide +kernel⟩, List.mem_of_getElem? (i := 5) (by decide +kernel), List.mem_of_getElem? (i := 210) (by decide +kernel), List.mem_of_getElem? (i := 211) (by decide +kernel)⟩
theorem lw_p22 : lw_okq (⟨"GappedStoreModel", "isNode", "(I)Z"⟩, 10) := ⟨⟨by decide +kernel, by decide +kernel⟩, List.mem_of_getElem? (i := 225) (by decide +kernel), List.mem_of_getElem? (i := 267) (by decide +kernel), List.mem_of_getElem? (i := 268) (by decide +kernel)⟩
theorem lw_p23 : lw_okq (⟨"GappedStoreModel", "segments", "()I"⟩, 10) := ⟨⟨by decide +kernel, by decide +kernel⟩, List.mem_of_getElem? (i := 225) (by decide +kernel), List.mem_of_getElem? (i := 271) (by decide +kernel), List.mem_of_getElem? (i := 272) (by decide +kernel)⟩
theorem lw_p24 : lw_okq (⟨"GappedStoreModel", "placeOf", "(I)I"⟩, 10) := ⟨⟨by decide +kernel, by decide +kernel⟩, List.mem_of_getElem? (i := 225) (by decide +kernel), List.mem_of_getElem? (i := 275) (by decide +kernel), List.mem_of_getElem? (i := 276) (by decide +kernel)⟩
theorem lw_p25 : lw_okq (⟨"GappedStoreModel", "levels", "()I"⟩, 10) := ⟨⟨by decide +kernel, by decide +kernel⟩, List.mem_of_getElem? (i := 225) (by decide +kernel), List.mem_of_getElem? (i := 279) (by decide +kernel), List.mem_of_getElem? (i := 280) (by decide +kernel)⟩
theorem lw_p26 : lw_okq (⟨"GappedStoreModel", "bears", "(I)J"⟩, 10) := ⟨⟨by decide +kernel, by decide +kernel⟩, List.mem_of_getElem? (i := 225) (by decide +kernel), List.mem_of_getElem? (i := 291) (by decide +kernel), List.mem_of_getElem? (i := 292) (by decide +kernel)⟩
theorem lw_p27 : lw_okq (⟨"GappedStoreModel", "greatest", "(II)J"⟩, 10) := ⟨⟨by decide +kernel, by decide +kernel⟩, List.mem_of_getElem? (i := 225) (by decide +kernel), List.mem_of_getElem? (i := 295) (by decide +kernel), List.mem_of_getElem? (i := 296) (by decide +kernel)⟩
theorem lw_p28 : lw_okq (⟨"GappedStoreModel", "seek", "(J)I"⟩, 10) := ⟨⟨by decide +kernel, by decide +kernel⟩, List.mem_of_getElem? (i := 225) (by decide +kernel), List.mem_of_getElem? (i := 303) (by decide +kernel), List.mem_of_getElem? (i := 304) (by decide +kernel)⟩
theorem lw_p29 : lw_okq (⟨"GappedStoreModel", "step", "(IJ)I"⟩, 10) := ⟨⟨by decide +kernel, by decide +kernel⟩, List.mem_of_getElem? (i := 225) (by decide +kernel), List.mem_of_getElem? (i := 307) (by decide +kernel), List.mem_of_getElem? (i := 308) (by decide +kernel)⟩
theorem lw_p30 : lw_okq (⟨"GappedStoreModel", "cellOf", "(J)I"⟩, 10) := ⟨⟨by decide +kernel, by decide +kernel⟩, List.mem_of_getElem? (i := 225) (by decide +kernel), List.mem_of_getElem? (i := 315) (by decide +kernel), List.mem_of_getElem? (i := 316) (by decide +kernel)⟩
theorem lw_p31 : lw_okq (⟨"GappedStoreModel", "held", "(II)I"⟩, 10) := ⟨⟨by decide +kernel, by decide +kernel⟩, List.mem_of_getElem? (i := 225) (by decide +kernel), List.mem_of_getElem? (i := 322) (by decide +kernel), List.mem_of_getElem? (i := 323) (by decide +kernel)⟩
def lw_privs_2 : List (MethodName × Nat) := [(⟨"GappedStore", "takeOut", "(I)V"⟩, 7), (⟨"GappedStore", "heightWithEnough", "(I)I"⟩, 7), (⟨"GappedStore", "fewestKeys", "(I)I"⟩, 7), (⟨"GappedStore", "halve", "()V"⟩, 7), (⟨"GappedStore", "isHeldBetween", "(IJJ)Z"⟩, 7), (⟨"GappedStore", "noteBlock", "(II)I"⟩, 7), (⟨"GappedStoreModel", "isNode", "(I)Z"⟩, 10), (⟨"GappedStoreModel", "segments", "()I"⟩, 10), (⟨"GappedStoreModel", "placeOf", "(I)I"⟩, 10), (⟨"GappedStoreModel", "levels", "()I"⟩, 10), (⟨"GappedStoreModel", "bears", "(I)J"⟩, 10), (⟨"GappedStoreModel", "greatest", "(II)J"⟩, 10), (⟨"GappedStoreModel", "seek", "(J)I"⟩, 10), (⟨"GappedStoreModel", "step", "(IJ)I"⟩, 10), (⟨"GappedStoreModel", "cellOf", "(J)I"⟩, 10), (⟨"GappedStoreModel", "held", "(II)I"⟩, 10)]
theorem lw_r2 : ∀ q ∈ lw_privs_2, lw_okq q := List.forall_mem_cons.mpr ⟨lw_p16, List.forall_mem_cons.mpr ⟨lw_p17, List.forall_mem_cons.mpr ⟨lw_p18, List.forall_mem_cons.mpr ⟨lw_p19, List.forall_mem_cons.mpr ⟨lw_p20, List.forall_mem_cons.mpr ⟨lw_p21, List.forall_mem_cons.mpr ⟨lw_p22, List.forall_mem_cons.mpr ⟨lw_p23, List.forall_mem_cons.mpr ⟨lw_p24, List.forall_mem_cons.mpr ⟨lw_p25, List.forall_mem_cons.mpr ⟨lw_p26, List.forall_mem_cons.mpr ⟨lw_p27, List.forall_mem_cons.mpr ⟨lw_p28, List.forall_mem_cons.mpr ⟨lw_p29, List.forall_mem_cons.mpr ⟨lw_p30, List.forall_mem_cons.mpr ⟨lw_p31, fun _ h => absurd h List.not_mem_nil⟩⟩⟩⟩⟩⟩⟩⟩⟩⟩⟩⟩⟩⟩⟩⟩
theorem lw_p32 : lw_okq (⟨"GappedStoreModel", "most", "(I)I"⟩, 10) := ⟨⟨by decide +kernel, by decide +kernel⟩, List.mem_of_getElem? (i := 225) (by decide +kernel), List.mem_of_getElem? (i := 326) (by decide +kernel), List.mem_of_getElem? (i := 327) (by decide +kernel)⟩
theorem lw_p33 : lw_okq (⟨"GappedStoreModel", "lift", "(II)V"⟩, 10) := ⟨⟨by decide +kernel, by decide +kernel⟩, List.mem_of_getElem? (i := 225) (by decide +kernel), List.mem_of_getElem? (i := 330) (by decide +kernel), List.mem_of_getElem? (i := 331) (by decide +kernel)⟩
theorem lw_p34 : lw_okq (⟨"GappedStoreModel", "join", "(JJ)V"⟩, 10) := ⟨⟨by decide +kernel, by decide +kernel⟩, List.mem_of_getElem? (i := 225) (by decide +kernel), List.mem_of_getElem? (i := 334) (by decide +kernel), List.mem_of_getElem? (i := 335) (by decide +kernel)⟩
theorem lw_p35 : lw_okq (⟨"GappedStoreModel", "spread", "(II)V"⟩, 10) := ⟨⟨by decide +kernel, by decide +kernel⟩, List.mem_of_getElem? (i := 225) (by decide +kernel), List.mem_of_getElem? (i := 338) (by decide +kernel), List.mem_of_getElem? (i := 339) (by decide +kernel)⟩
theorem lw_p36 : lw_okq (⟨"GappedStoreModel", "fewest", "(I)I"⟩, 10) := ⟨⟨by decide +kernel, by decide +kernel⟩, List.mem_of_getElem? (i := 225) (by decide +kernel), List.mem_of_getElem? (i := 351) (by decide +kernel), List.mem_of_getElem? (i := 352) (by decide +kernel)⟩
def lw_privs_3 : List (MethodName × Nat) := [(⟨"GappedStoreModel", "most", "(I)I"⟩, 10), (⟨"GappedStoreModel", "lift", "(II)V"⟩, 10), (⟨"GappedStoreModel", "join", "(JJ)V"⟩, 10), (⟨"GappedStoreModel", "spread", "(II)V"⟩, 10), (⟨"GappedStoreModel", "fewest", "(I)I"⟩, 10)]
theorem lw_r3 : ∀ q ∈ lw_privs_3, lw_okq q := List.forall_mem_cons.mpr ⟨lw_p32, List.forall_mem_cons.mpr ⟨lw_p33, List.forall_mem_cons.mpr ⟨lw_p34, List.forall_mem_cons.mpr ⟨lw_p35, List.forall_mem_cons.mpr ⟨lw_p36, fun _ h => absurd h List.not_mem_nil⟩⟩⟩⟩⟩
def lw_privs : List (MethodName × Nat) := lw_privs_1 ++ (lw_privs_2 ++ (lw_privs_3))
def lw_tbl : List Cond := k2_sels lw_privs ++ tables_1
theorem lw_privs_ok : ∀ q ∈ lw_privs, lw_okq q := by
  show ∀ q ∈ lw_privs_1 ++ (lw_privs_2 ++ (lw_privs_3)), lw_okq q
  exact List.forall_mem_append.mpr ⟨lw_r1, List.forall_mem_append.mpr ⟨lw_r2, lw_r3⟩⟩

def NOK : Int64 := -9223372036854775808
def RX0 : String := "GappedStore"
def RX1 : String := "GappedStoreModel"
def RJ7 : String := "java/util/Arrays"
def RL : String := "GappedStoreLaw"
def TX0 : u_T := fun k => match k with
  | 0 => ("GappedStore", "keys", "[J", true)
  | 1 => ("GappedStore", "values", "[J", true)
  | 2 => ("GappedStore", "blocks", "[I", true)
  | 3 => ("GappedStore", "leastLevels", "I", true)
  | 4 => ("GappedStore", "levels", "I", false)
  | 5 => ("GappedStore", "latestHeight", "I", false)
  | _ => ("GappedStore", "movedKeys", "J", false)
def tyX0 : Nat → FieldType := fun k => match k with
  | 0 => .array .long
  | 1 => .array .long
  | 2 => .array .int
  | 3 => .int
  | 4 => .int
  | 5 => .int
  | _ => .long
theorem nmX0 : ∀ a, a < 7 → ∀ b, b < 7 → a ≠ b → (TX0 a).2.1 ≠ (TX0 b).2.1 := by decide +kernel
theorem tyX0_ok : ∀ k, k < 7 → parseFieldDescriptor (TX0 k).2.2.1 = some (tyX0 k) := by decide +kernel
def TX1 : u_T := fun k => match k with
  | 0 => ("GappedStoreModel", "least", "I", true)
  | 1 => ("GappedStoreModel", "cells", "I", false)
  | 2 => ("GappedStoreModel", "full", "[Z", true)
  | 3 => ("GappedStoreModel", "keys", "[J", true)
  | 4 => ("GappedStoreModel", "values", "[J", true)
  | 5 => ("GappedStoreModel", "window", "I", false)
  | 6 => ("GappedStoreModel", "moved", "J", false)
  | 7 => ("GappedStoreModel", "waiting", "I", false)
  | 8 => ("GappedStoreModel", "waitKeys", "[J", true)
  | _ => ("GappedStoreModel", "waitValues", "[J", true)
def tyX1 : Nat → FieldType := fun k => match k with
  | 0 => .int
  | 1 => .int
  | 2 => .array .boolean
  | 3 => .array .long
  | 4 => .array .long
  | 5 => .int
  | 6 => .long
  | 7 => .int
  | 8 => .array .long
  | _ => .array .long
theorem nmX1 : ∀ a, a < 10 → ∀ b, b < 10 → a ≠ b → (TX1 a).2.1 ≠ (TX1 b).2.1 := by decide +kernel
theorem tyX1_ok : ∀ k, k < 10 → parseFieldDescriptor (TX1 k).2.2.1 = some (tyX1 k) := by decide +kernel
abbrev vwCl : List vw_C := [(RX0, TX0, 7), (RX1, TX1, 10)]
abbrev cX0_init : ByteArray := prog_1_method_1_code
def yX0_init : MethodName := ⟨RX0, "<init>", "(I)V"⟩
abbrev cJ7_fill_d0a16 : ByteArray := prog_4_method_101_code
def yJ7_fill_d0a16 : MethodName := ⟨RJ7, "fill", "([JJ)V"⟩
abbrev cX0_put : ByteArray := prog_1_method_2_code
def yX0_put : MethodName := ⟨RX0, "put", "(JJ)I"⟩
abbrev cX0_cellOf : ByteArray := prog_1_method_30_code
def yX0_cellOf : MethodName := ⟨RX0, "cellOf", "(J)I"⟩
abbrev cX0_cellNotBelow : ByteArray := prog_1_method_29_code
def yX0_cellNotBelow : MethodName := ⟨RX0, "cellNotBelow", "(J)I"⟩
abbrev cX0_seek : ByteArray := prog_1_method_22_code
def yX0_seek : MethodName := ⟨RX0, "seek", "(J)I"⟩
abbrev cX0_borneBy : ByteArray := prog_1_method_23_code
def yX0_borneBy : MethodName := ⟨RX0, "borneBy", "(I)J"⟩
abbrev cX0_depthOf : ByteArray := prog_1_method_25_code
def yX0_depthOf : MethodName := ⟨RX0, "depthOf", "(I)I"⟩
abbrev cX0_segments : ByteArray := prog_1_method_21_code
def yX0_segments : MethodName := ⟨RX0, "segments", "()I"⟩
abbrev cX0_windowCells : ByteArray := prog_1_method_33_code
def yX0_windowCells : MethodName := ⟨RX0, "windowCells", "(I)I"⟩
abbrev cX0_greatestKey : ByteArray := prog_1_method_24_code
def yX0_greatestKey : MethodName := ⟨RX0, "greatestKey", "(II)J"⟩
abbrev cX0_putNew : ByteArray := prog_1_method_40_code
def yX0_putNew : MethodName := ⟨RX0, "putNew", "(JJ)Z"⟩
abbrev cX0_heightWithRoom : ByteArray := prog_1_method_38_code
def yX0_heightWithRoom : MethodName := ⟨RX0, "heightWithRoom", "(I)I"⟩
abbrev cX0_keysInWindow : ByteArray := prog_1_method_35_code
def yX0_keysInWindow : MethodName := ⟨RX0, "keysInWindow", "(II)I"⟩
abbrev cX0_firstCell : ByteArray := prog_1_method_34_code
def yX0_firstCell : MethodName := ⟨RX0, "firstCell", "(II)I"⟩
abbrev cX0_keysAmong : ByteArray := prog_1_method_32_code
def yX0_keysAmong : MethodName := ⟨RX0, "keysAmong", "(II)I"⟩
abbrev cX0_mostKeys : ByteArray := prog_1_method_36_code
def yX0_mostKeys : MethodName := ⟨RX0, "mostKeys", "(I)I"⟩
abbrev cX0_cells : ByteArray := prog_1_method_14_code
def yX0_cells : MethodName := ⟨RX0, "cells", "()I"⟩
abbrev cX0_pack : ByteArray := prog_1_method_43_code
def yX0_pack : MethodName := ⟨RX0, "pack", "(II)I"⟩
abbrev cX0_shift : ByteArray := prog_1_method_46_code
def yX0_shift : MethodName := ⟨RX0, "shift", "(II)V"⟩
abbrev cX0_clear : ByteArray := prog_1_method_47_code
def yX0_clear : MethodName := ⟨RX0, "clear", "(I)V"⟩
abbrev cX0_insertPacked : ByteArray := prog_1_method_44_code
def yX0_insertPacked : MethodName := ⟨RX0, "insertPacked", "(IIJJ)V"⟩
abbrev cX0_spreadPacked : ByteArray := prog_1_method_45_code
def yX0_spreadPacked : MethodName := ⟨RX0, "spreadPacked", "(III)V"⟩
abbrev cX0_fill : ByteArray := prog_1_method_3_code
def yX0_fill : MethodName := ⟨RX0, "fill", "(JJI)I"⟩
abbrev cX0_remove : ByteArray := prog_1_method_4_code
def yX0_remove : MethodName := ⟨RX0, "remove", "(J)Z"⟩
abbrev cX0_takeOut : ByteArray := prog_1_method_41_code
def yX0_takeOut : MethodName := ⟨RX0, "takeOut", "(I)V"⟩
abbrev cX0_heightWithEnough : ByteArray := prog_1_method_39_code
def yX0_heightWithEnough : MethodName := ⟨RX0, "heightWithEnough", "(I)I"⟩
abbrev cX0_fewestKeys : ByteArray := prog_1_method_37_code
def yX0_fewestKeys : MethodName := ⟨RX0, "fewestKeys", "(I)I"⟩
abbrev cX0_halve : ByteArray := prog_1_method_42_code
def yX0_halve : MethodName := ⟨RX0, "halve", "()V"⟩
abbrev cX0_drop : ByteArray := prog_1_method_5_code
def yX0_drop : MethodName := ⟨RX0, "drop", "(JI)I"⟩
abbrev cX0_has : ByteArray := prog_1_method_6_code
def yX0_has : MethodName := ⟨RX0, "has", "(J)Z"⟩
abbrev cX0_get : ByteArray := prog_1_method_7_code
def yX0_get : MethodName := ⟨RX0, "get", "(J)J"⟩
abbrev cX0_floor : ByteArray := prog_1_method_8_code
def yX0_floor : MethodName := ⟨RX0, "floor", "(J)J"⟩
abbrev cX0_ceiling : ByteArray := prog_1_method_9_code
def yX0_ceiling : MethodName := ⟨RX0, "ceiling", "(J)J"⟩
abbrev cX0_select : ByteArray := prog_1_method_10_code
def yX0_select : MethodName := ⟨RX0, "select", "(I)J"⟩
abbrev cX0_count : ByteArray := prog_1_method_11_code
def yX0_count : MethodName := ⟨RX0, "count", "(JJ)I"⟩
abbrev cX0_isHeldBetween : ByteArray := prog_1_method_31_code
def yX0_isHeldBetween : MethodName := ⟨RX0, "isHeldBetween", "(IJJ)Z"⟩
abbrev cX0_sum : ByteArray := prog_1_method_12_code
def yX0_sum : MethodName := ⟨RX0, "sum", "(JJ)J"⟩
abbrev cX0_size : ByteArray := prog_1_method_13_code
def yX0_size : MethodName := ⟨RX0, "size", "()I"⟩
abbrev cX0_cellKey : ByteArray := prog_1_method_15_code
def yX0_cellKey : MethodName := ⟨RX0, "cellKey", "(I)J"⟩
abbrev cX0_place : ByteArray := prog_1_method_16_code
def yX0_place : MethodName := ⟨RX0, "place", "(I)I"⟩
abbrev cX0_placeInTree : ByteArray := prog_1_method_27_code
def yX0_placeInTree : MethodName := ⟨RX0, "placeInTree", "(II)I"⟩
abbrev cX0_nodesOfTree : ByteArray := prog_1_method_26_code
def yX0_nodesOfTree : MethodName := ⟨RX0, "nodesOfTree", "(I)I"⟩
abbrev cX0_borne : ByteArray := prog_1_method_17_code
def yX0_borne : MethodName := ⟨RX0, "borne", "(I)J"⟩
abbrev cX0_touched : ByteArray := prog_1_method_18_code
def yX0_touched : MethodName := ⟨RX0, "touched", "(JI)I"⟩
abbrev cX0_noteBlock : ByteArray := prog_1_method_28_code
def yX0_noteBlock : MethodName := ⟨RX0, "noteBlock", "(II)I"⟩
abbrev cX0_window : ByteArray := prog_1_method_19_code
def yX0_window : MethodName := ⟨RX0, "window", "()I"⟩
abbrev cX0_moved : ByteArray := prog_1_method_20_code
def yX0_moved : MethodName := ⟨RX0, "moved", "()J"⟩
abbrev cL_cell : ByteArray := method_2_code
def yL_cell : MethodName := ⟨RL, "cell", "([II)I"⟩
abbrev cX1_init : ByteArray := prog_3_method_1_code
def yX1_init : MethodName := ⟨RX1, "<init>", "(I)V"⟩
abbrev cX1_place : ByteArray := prog_3_method_11_code
def yX1_place : MethodName := ⟨RX1, "place", "(I)I"⟩
abbrev cX1_isNode : ByteArray := prog_3_method_10_code
def yX1_isNode : MethodName := ⟨RX1, "isNode", "(I)Z"⟩
abbrev cX1_segments : ByteArray := prog_3_method_2_code
def yX1_segments : MethodName := ⟨RX1, "segments", "()I"⟩
abbrev cX1_placeOf : ByteArray := prog_3_method_9_code
def yX1_placeOf : MethodName := ⟨RX1, "placeOf", "(I)I"⟩
abbrev cX1_levels : ByteArray := prog_3_method_3_code
def yX1_levels : MethodName := ⟨RX1, "levels", "()I"⟩
abbrev cX1_levelOf : ByteArray := prog_3_method_5_code
def yX1_levelOf : MethodName := ⟨RX1, "levelOf", "(I)I"⟩
abbrev cX1_borne : ByteArray := prog_3_method_12_code
def yX1_borne : MethodName := ⟨RX1, "borne", "(I)J"⟩
abbrev cX1_bears : ByteArray := prog_3_method_6_code
def yX1_bears : MethodName := ⟨RX1, "bears", "(I)J"⟩
abbrev cX1_greatest : ByteArray := prog_3_method_4_code
def yX1_greatest : MethodName := ⟨RX1, "greatest", "(II)J"⟩
abbrev cX1_touched : ByteArray := prog_3_method_13_code
def yX1_touched : MethodName := ⟨RX1, "touched", "(JI)I"⟩
abbrev cX1_seek : ByteArray := prog_3_method_8_code
def yX1_seek : MethodName := ⟨RX1, "seek", "(J)I"⟩
abbrev cX1_step : ByteArray := prog_3_method_7_code
def yX1_step : MethodName := ⟨RX1, "step", "(IJ)I"⟩
abbrev cX1_put : ByteArray := prog_3_method_22_code
def yX1_put : MethodName := ⟨RX1, "put", "(JJ)I"⟩
abbrev cX1_cellOf : ByteArray := prog_3_method_21_code
def yX1_cellOf : MethodName := ⟨RX1, "cellOf", "(J)I"⟩
abbrev cX1_firstOf : ByteArray := prog_3_method_16_code
def yX1_firstOf : MethodName := ⟨RX1, "firstOf", "(II)I"⟩
abbrev cX1_held : ByteArray := prog_3_method_17_code
def yX1_held : MethodName := ⟨RX1, "held", "(II)I"⟩
abbrev cX1_most : ByteArray := prog_3_method_14_code
def yX1_most : MethodName := ⟨RX1, "most", "(I)I"⟩
abbrev cX1_lift : ByteArray := prog_3_method_18_code
def yX1_lift : MethodName := ⟨RX1, "lift", "(II)V"⟩
abbrev cX1_join : ByteArray := prog_3_method_19_code
def yX1_join : MethodName := ⟨RX1, "join", "(JJ)V"⟩
abbrev cX1_spread : ByteArray := prog_3_method_20_code
def yX1_spread : MethodName := ⟨RX1, "spread", "(II)V"⟩
abbrev cX1_fill : ByteArray := prog_3_method_23_code
def yX1_fill : MethodName := ⟨RX1, "fill", "(JJI)I"⟩
abbrev cX1_remove : ByteArray := prog_3_method_24_code
def yX1_remove : MethodName := ⟨RX1, "remove", "(J)Z"⟩
abbrev cX1_fewest : ByteArray := prog_3_method_15_code
def yX1_fewest : MethodName := ⟨RX1, "fewest", "(I)I"⟩
abbrev cX1_drop : ByteArray := prog_3_method_25_code
def yX1_drop : MethodName := ⟨RX1, "drop", "(JI)I"⟩
abbrev cX1_ceiling : ByteArray := prog_3_method_29_code
def yX1_ceiling : MethodName := ⟨RX1, "ceiling", "(J)J"⟩
abbrev cX1_has : ByteArray := prog_3_method_26_code
def yX1_has : MethodName := ⟨RX1, "has", "(J)Z"⟩
abbrev cX1_get : ByteArray := prog_3_method_27_code
def yX1_get : MethodName := ⟨RX1, "get", "(J)J"⟩
abbrev cX1_floor : ByteArray := prog_3_method_28_code
def yX1_floor : MethodName := ⟨RX1, "floor", "(J)J"⟩
abbrev cX1_select : ByteArray := prog_3_method_30_code
def yX1_select : MethodName := ⟨RX1, "select", "(I)J"⟩
abbrev cX1_count : ByteArray := prog_3_method_31_code
def yX1_count : MethodName := ⟨RX1, "count", "(JJ)I"⟩
abbrev cX1_sum : ByteArray := prog_3_method_32_code
def yX1_sum : MethodName := ⟨RX1, "sum", "(JJ)J"⟩
abbrev cX1_size : ByteArray := prog_3_method_33_code
def yX1_size : MethodName := ⟨RX1, "size", "()I"⟩
abbrev cX1_cells : ByteArray := prog_3_method_34_code
def yX1_cells : MethodName := ⟨RX1, "cells", "()I"⟩
abbrev cX1_cellKey : ByteArray := prog_3_method_35_code
def yX1_cellKey : MethodName := ⟨RX1, "cellKey", "(I)J"⟩
abbrev cX1_window : ByteArray := prog_3_method_36_code
def yX1_window : MethodName := ⟨RX1, "window", "()I"⟩
abbrev cX1_moved : ByteArray := prog_3_method_37_code
def yX1_moved : MethodName := ⟨RX1, "moved", "()J"⟩
abbrev cL_law : ByteArray := code
def TB : List Cond := lw_tbl.filter goodWord
theorem tb_r {w : Cond} (k : Nat) (h : tables_1[k]? = some w) (hg : goodWord w = true) : w ∈ TB := List.mem_filter.mpr ⟨List.mem_append_right _ (List.mem_of_getElem? h), hg⟩
theorem tb_l {w : Cond} (k : Nat) (h : (k2_sels lw_privs)[k]? = some w) (hg : goodWord w = true) : w ∈ TB := List.mem_filter.mpr ⟨List.mem_append_left _ (List.mem_of_getElem? h), hg⟩
theorem tin_L : (Cond.initialized RL) ∈ TB := tb_r 0 (by decide +kernel) (by decide +kernel)
theorem tin_X0 : (Cond.initialized RX0) ∈ TB := tb_r 1 (by decide +kernel) (by decide +kernel)
theorem tin_J7 : (Cond.initialized RJ7) ∈ TB := tb_r 2 (by decide +kernel) (by decide +kernel)
theorem tin_X1 : (Cond.initialized RX1) ∈ TB := tb_r 3 (by decide +kernel) (by decide +kernel)
theorem tcl_L_7 : (Cond.classLink RL 7 RX0) ∈ TB := tb_r 4 (by decide +kernel) (by decide +kernel)
theorem tis_X0 : (Cond.instantiable RX0 7) ∈ TB := tb_r 5 (by decide +kernel) (by decide +kernel)
theorem tml_L_15 : (Cond.methodLink RL 15 yX0_init) ∈ TB := tb_r 6 (by decide +kernel) (by decide +kernel)
theorem tim_yX0_init : (Cond.instanceMethod yX0_init) ∈ TB := tb_r 7 (by decide +kernel) (by decide +kernel)
theorem tco_yX0_init : (Cond.code yX0_init cX0_init 2 none) ∈ TB := tb_r 8 (by decide +kernel) (by decide +kernel)
theorem tml_X0_3 : (Cond.methodLink RX0 3 objectInit) ∈ TB := tb_r 9 (by decide +kernel) (by decide +kernel)
theorem tim_objectInit : (Cond.instanceMethod objectInit) ∈ TB := tb_r 10 (by decide +kernel) (by decide +kernel)
theorem tco_objectInit : (Cond.code objectInit ⟨#[0xb1]⟩ 1 none) ∈ TB := tb_r 11 (by decide +kernel) (by decide +kernel)
theorem tcn_X0_13 : (Cond.constantLong RX0 13 NOK) ∈ TB := tb_r 12 (by decide +kernel) (by decide +kernel)
theorem tml_X0_15 : (Cond.methodLink RX0 15 yJ7_fill_d0a16) ∈ TB := tb_r 13 (by decide +kernel) (by decide +kernel)
theorem tst_yJ7_fill_d0a16 : (Cond.static yJ7_fill_d0a16) ∈ TB := tb_r 14 (by decide +kernel) (by decide +kernel)
theorem tco_yJ7_fill_d0a16 : (Cond.code yJ7_fill_d0a16 cJ7_fill_d0a16 5 none) ∈ TB := tb_r 15 (by decide +kernel) (by decide +kernel)
theorem tfl_X0_9 : (Cond.fieldLink RX0 9 "GappedStore" "keys" "[J") ∈ TB := tb_r 16 (by decide +kernel) (by decide +kernel)
theorem tfl_X0_21 : (Cond.fieldLink RX0 21 "GappedStore" "values" "[J") ∈ TB := tb_r 17 (by decide +kernel) (by decide +kernel)
theorem tfl_X0_24 : (Cond.fieldLink RX0 24 "GappedStore" "blocks" "[I") ∈ TB := tb_r 18 (by decide +kernel) (by decide +kernel)
theorem tfl_X0_28 : (Cond.fieldLink RX0 28 "GappedStore" "leastLevels" "I") ∈ TB := tb_r 19 (by decide +kernel) (by decide +kernel)
theorem tfl_X0_32 : (Cond.fieldLink RX0 32 "GappedStore" "levels" "I") ∈ TB := tb_r 20 (by decide +kernel) (by decide +kernel)
theorem tfl_X0_35 : (Cond.fieldLink RX0 35 "GappedStore" "latestHeight" "I") ∈ TB := tb_r 21 (by decide +kernel) (by decide +kernel)
theorem tfl_X0_38 : (Cond.fieldLink RX0 38 "GappedStore" "movedKeys" "J") ∈ TB := tb_r 22 (by decide +kernel) (by decide +kernel)
theorem tar_long : (Cond.arrayClass .long) ∈ TB := tb_r 38 (by decide +kernel) (by decide +kernel)
theorem tar_int : (Cond.arrayClass .int) ∈ TB := tb_r 39 (by decide +kernel) (by decide +kernel)
theorem tml_L_23 : (Cond.methodLink RL 23 yX0_put) ∈ TB := tb_r 40 (by decide +kernel) (by decide +kernel)
theorem tim_yX0_put : (Cond.instanceMethod yX0_put) ∈ TB := tb_r 41 (by decide +kernel) (by decide +kernel)
theorem tse_yX0_put : (Cond.selects RX0 yX0_put yX0_put) ∈ TB := tb_r 42 (by decide +kernel) (by decide +kernel)
theorem tco_yX0_put : (Cond.code yX0_put cX0_put 6 (some .int)) ∈ TB := tb_r 43 (by decide +kernel) (by decide +kernel)
theorem tml_X0_42 : (Cond.methodLink RX0 42 yX0_cellOf) ∈ TB := tb_r 44 (by decide +kernel) (by decide +kernel)
theorem tim_yX0_cellOf : (Cond.instanceMethod yX0_cellOf) ∈ TB := tb_r 46 (by decide +kernel) (by decide +kernel)
theorem tco_yX0_cellOf : (Cond.code yX0_cellOf cX0_cellOf 4 (some .int)) ∈ TB := tb_r 47 (by decide +kernel) (by decide +kernel)
theorem tml_X0_58 : (Cond.methodLink RX0 58 yX0_cellNotBelow) ∈ TB := tb_r 48 (by decide +kernel) (by decide +kernel)
theorem tim_yX0_cellNotBelow : (Cond.instanceMethod yX0_cellNotBelow) ∈ TB := tb_r 50 (by decide +kernel) (by decide +kernel)
theorem tco_yX0_cellNotBelow : (Cond.code yX0_cellNotBelow cX0_cellNotBelow 5 (some .int)) ∈ TB := tb_r 51 (by decide +kernel) (by decide +kernel)
theorem tml_X0_87 : (Cond.methodLink RX0 87 yX0_seek) ∈ TB := tb_r 52 (by decide +kernel) (by decide +kernel)
theorem tim_yX0_seek : (Cond.instanceMethod yX0_seek) ∈ TB := tb_r 54 (by decide +kernel) (by decide +kernel)
theorem tco_yX0_seek : (Cond.code yX0_seek cX0_seek 8 (some .int)) ∈ TB := tb_r 55 (by decide +kernel) (by decide +kernel)
theorem tml_X0_83 : (Cond.methodLink RX0 83 yX0_borneBy) ∈ TB := tb_r 56 (by decide +kernel) (by decide +kernel)
theorem tim_yX0_borneBy : (Cond.instanceMethod yX0_borneBy) ∈ TB := tb_r 58 (by decide +kernel) (by decide +kernel)
theorem tco_yX0_borneBy : (Cond.code yX0_borneBy cX0_borneBy 4 (some .long)) ∈ TB := tb_r 59 (by decide +kernel) (by decide +kernel)
theorem tml_X0_93 : (Cond.methodLink RX0 93 yX0_depthOf) ∈ TB := tb_r 60 (by decide +kernel) (by decide +kernel)
theorem tst_yX0_depthOf : (Cond.static yX0_depthOf) ∈ TB := tb_r 61 (by decide +kernel) (by decide +kernel)
theorem tco_yX0_depthOf : (Cond.code yX0_depthOf cX0_depthOf 3 (some .int)) ∈ TB := tb_r 62 (by decide +kernel) (by decide +kernel)
theorem tml_X0_77 : (Cond.methodLink RX0 77 yX0_segments) ∈ TB := tb_r 63 (by decide +kernel) (by decide +kernel)
theorem tim_yX0_segments : (Cond.instanceMethod yX0_segments) ∈ TB := tb_r 65 (by decide +kernel) (by decide +kernel)
theorem tco_yX0_segments : (Cond.code yX0_segments cX0_segments 1 (some .int)) ∈ TB := tb_r 66 (by decide +kernel) (by decide +kernel)
theorem tml_X0_73 : (Cond.methodLink RX0 73 yX0_windowCells) ∈ TB := tb_r 67 (by decide +kernel) (by decide +kernel)
theorem tst_yX0_windowCells : (Cond.static yX0_windowCells) ∈ TB := tb_r 68 (by decide +kernel) (by decide +kernel)
theorem tco_yX0_windowCells : (Cond.code yX0_windowCells cX0_windowCells 1 (some .int)) ∈ TB := tb_r 69 (by decide +kernel) (by decide +kernel)
theorem tml_X0_96 : (Cond.methodLink RX0 96 yX0_greatestKey) ∈ TB := tb_r 70 (by decide +kernel) (by decide +kernel)
theorem tim_yX0_greatestKey : (Cond.instanceMethod yX0_greatestKey) ∈ TB := tb_r 72 (by decide +kernel) (by decide +kernel)
theorem tco_yX0_greatestKey : (Cond.code yX0_greatestKey cX0_greatestKey 4 (some .long)) ∈ TB := tb_r 73 (by decide +kernel) (by decide +kernel)
theorem tml_X0_46 : (Cond.methodLink RX0 46 yX0_putNew) ∈ TB := tb_r 74 (by decide +kernel) (by decide +kernel)
theorem tim_yX0_putNew : (Cond.instanceMethod yX0_putNew) ∈ TB := tb_r 76 (by decide +kernel) (by decide +kernel)
theorem tco_yX0_putNew : (Cond.code yX0_putNew cX0_putNew 9 (some .boolean)) ∈ TB := tb_r 77 (by decide +kernel) (by decide +kernel)
theorem tml_X0_115 : (Cond.methodLink RX0 115 yX0_heightWithRoom) ∈ TB := tb_r 78 (by decide +kernel) (by decide +kernel)
theorem tim_yX0_heightWithRoom : (Cond.instanceMethod yX0_heightWithRoom) ∈ TB := tb_r 80 (by decide +kernel) (by decide +kernel)
theorem tco_yX0_heightWithRoom : (Cond.code yX0_heightWithRoom cX0_heightWithRoom 3 (some .int)) ∈ TB := tb_r 81 (by decide +kernel) (by decide +kernel)
theorem tml_X0_106 : (Cond.methodLink RX0 106 yX0_keysInWindow) ∈ TB := tb_r 82 (by decide +kernel) (by decide +kernel)
theorem tim_yX0_keysInWindow : (Cond.instanceMethod yX0_keysInWindow) ∈ TB := tb_r 84 (by decide +kernel) (by decide +kernel)
theorem tco_yX0_keysInWindow : (Cond.code yX0_keysInWindow cX0_keysInWindow 3 (some .int)) ∈ TB := tb_r 85 (by decide +kernel) (by decide +kernel)
theorem tml_X0_103 : (Cond.methodLink RX0 103 yX0_firstCell) ∈ TB := tb_r 86 (by decide +kernel) (by decide +kernel)
theorem tst_yX0_firstCell : (Cond.static yX0_firstCell) ∈ TB := tb_r 87 (by decide +kernel) (by decide +kernel)
theorem tco_yX0_firstCell : (Cond.code yX0_firstCell cX0_firstCell 2 (some .int)) ∈ TB := tb_r 88 (by decide +kernel) (by decide +kernel)
theorem tml_X0_69 : (Cond.methodLink RX0 69 yX0_keysAmong) ∈ TB := tb_r 89 (by decide +kernel) (by decide +kernel)
theorem tim_yX0_keysAmong : (Cond.instanceMethod yX0_keysAmong) ∈ TB := tb_r 91 (by decide +kernel) (by decide +kernel)
theorem tco_yX0_keysAmong : (Cond.code yX0_keysAmong cX0_keysAmong 5 (some .int)) ∈ TB := tb_r 92 (by decide +kernel) (by decide +kernel)
theorem tml_X0_109 : (Cond.methodLink RX0 109 yX0_mostKeys) ∈ TB := tb_r 93 (by decide +kernel) (by decide +kernel)
theorem tim_yX0_mostKeys : (Cond.instanceMethod yX0_mostKeys) ∈ TB := tb_r 95 (by decide +kernel) (by decide +kernel)
theorem tco_yX0_mostKeys : (Cond.code yX0_mostKeys cX0_mostKeys 2 (some .int)) ∈ TB := tb_r 96 (by decide +kernel) (by decide +kernel)
theorem tml_X0_61 : (Cond.methodLink RX0 61 yX0_cells) ∈ TB := tb_r 97 (by decide +kernel) (by decide +kernel)
theorem tim_yX0_cells : (Cond.instanceMethod yX0_cells) ∈ TB := tb_r 98 (by decide +kernel) (by decide +kernel)
theorem tse_yX0_cells : (Cond.selects RX0 yX0_cells yX0_cells) ∈ TB := tb_r 99 (by decide +kernel) (by decide +kernel)
theorem tco_yX0_cells : (Cond.code yX0_cells cX0_cells 1 (some .int)) ∈ TB := tb_r 100 (by decide +kernel) (by decide +kernel)
theorem tml_X0_118 : (Cond.methodLink RX0 118 yX0_pack) ∈ TB := tb_r 101 (by decide +kernel) (by decide +kernel)
theorem tim_yX0_pack : (Cond.instanceMethod yX0_pack) ∈ TB := tb_r 103 (by decide +kernel) (by decide +kernel)
theorem tco_yX0_pack : (Cond.code yX0_pack cX0_pack 5 (some .int)) ∈ TB := tb_r 104 (by decide +kernel) (by decide +kernel)
theorem tml_X0_138 : (Cond.methodLink RX0 138 yX0_shift) ∈ TB := tb_r 105 (by decide +kernel) (by decide +kernel)
theorem tim_yX0_shift : (Cond.instanceMethod yX0_shift) ∈ TB := tb_r 107 (by decide +kernel) (by decide +kernel)
theorem tco_yX0_shift : (Cond.code yX0_shift cX0_shift 3 none) ∈ TB := tb_r 108 (by decide +kernel) (by decide +kernel)
theorem tml_X0_129 : (Cond.methodLink RX0 129 yX0_clear) ∈ TB := tb_r 109 (by decide +kernel) (by decide +kernel)
theorem tim_yX0_clear : (Cond.instanceMethod yX0_clear) ∈ TB := tb_r 111 (by decide +kernel) (by decide +kernel)
theorem tco_yX0_clear : (Cond.code yX0_clear cX0_clear 2 none) ∈ TB := tb_r 112 (by decide +kernel) (by decide +kernel)
theorem tml_X0_121 : (Cond.methodLink RX0 121 yX0_insertPacked) ∈ TB := tb_r 113 (by decide +kernel) (by decide +kernel)
theorem tim_yX0_insertPacked : (Cond.instanceMethod yX0_insertPacked) ∈ TB := tb_r 115 (by decide +kernel) (by decide +kernel)
theorem tco_yX0_insertPacked : (Cond.code yX0_insertPacked cX0_insertPacked 8 none) ∈ TB := tb_r 116 (by decide +kernel) (by decide +kernel)
theorem tml_X0_125 : (Cond.methodLink RX0 125 yX0_spreadPacked) ∈ TB := tb_r 117 (by decide +kernel) (by decide +kernel)
theorem tim_yX0_spreadPacked : (Cond.instanceMethod yX0_spreadPacked) ∈ TB := tb_r 119 (by decide +kernel) (by decide +kernel)
theorem tco_yX0_spreadPacked : (Cond.code yX0_spreadPacked cX0_spreadPacked 5 none) ∈ TB := tb_r 120 (by decide +kernel) (by decide +kernel)
theorem tml_L_28 : (Cond.methodLink RL 28 yX0_fill) ∈ TB := tb_r 121 (by decide +kernel) (by decide +kernel)
theorem tim_yX0_fill : (Cond.instanceMethod yX0_fill) ∈ TB := tb_r 122 (by decide +kernel) (by decide +kernel)
theorem tse_yX0_fill : (Cond.selects RX0 yX0_fill yX0_fill) ∈ TB := tb_r 123 (by decide +kernel) (by decide +kernel)
theorem tco_yX0_fill : (Cond.code yX0_fill cX0_fill 9 (some .int)) ∈ TB := tb_r 124 (by decide +kernel) (by decide +kernel)
theorem tml_X0_50 : (Cond.methodLink RX0 50 yX0_put) ∈ TB := tb_r 125 (by decide +kernel) (by decide +kernel)
theorem tml_L_33 : (Cond.methodLink RL 33 yX0_remove) ∈ TB := tb_r 126 (by decide +kernel) (by decide +kernel)
theorem tim_yX0_remove : (Cond.instanceMethod yX0_remove) ∈ TB := tb_r 127 (by decide +kernel) (by decide +kernel)
theorem tse_yX0_remove : (Cond.selects RX0 yX0_remove yX0_remove) ∈ TB := tb_r 128 (by decide +kernel) (by decide +kernel)
theorem tco_yX0_remove : (Cond.code yX0_remove cX0_remove 4 (some .boolean)) ∈ TB := tb_r 129 (by decide +kernel) (by decide +kernel)
theorem tml_X0_54 : (Cond.methodLink RX0 54 yX0_takeOut) ∈ TB := tb_r 130 (by decide +kernel) (by decide +kernel)
theorem tim_yX0_takeOut : (Cond.instanceMethod yX0_takeOut) ∈ TB := tb_r 132 (by decide +kernel) (by decide +kernel)
theorem tco_yX0_takeOut : (Cond.code yX0_takeOut cX0_takeOut 5 none) ∈ TB := tb_r 133 (by decide +kernel) (by decide +kernel)
theorem tml_X0_132 : (Cond.methodLink RX0 132 yX0_heightWithEnough) ∈ TB := tb_r 134 (by decide +kernel) (by decide +kernel)
theorem tim_yX0_heightWithEnough : (Cond.instanceMethod yX0_heightWithEnough) ∈ TB := tb_r 136 (by decide +kernel) (by decide +kernel)
theorem tco_yX0_heightWithEnough : (Cond.code yX0_heightWithEnough cX0_heightWithEnough 3 (some .int)) ∈ TB := tb_r 137 (by decide +kernel) (by decide +kernel)
theorem tml_X0_112 : (Cond.methodLink RX0 112 yX0_fewestKeys) ∈ TB := tb_r 138 (by decide +kernel) (by decide +kernel)
theorem tim_yX0_fewestKeys : (Cond.instanceMethod yX0_fewestKeys) ∈ TB := tb_r 140 (by decide +kernel) (by decide +kernel)
theorem tco_yX0_fewestKeys : (Cond.code yX0_fewestKeys cX0_fewestKeys 3 (some .int)) ∈ TB := tb_r 141 (by decide +kernel) (by decide +kernel)
theorem tml_X0_135 : (Cond.methodLink RX0 135 yX0_halve) ∈ TB := tb_r 142 (by decide +kernel) (by decide +kernel)
theorem tim_yX0_halve : (Cond.instanceMethod yX0_halve) ∈ TB := tb_r 144 (by decide +kernel) (by decide +kernel)
theorem tco_yX0_halve : (Cond.code yX0_halve cX0_halve 2 none) ∈ TB := tb_r 145 (by decide +kernel) (by decide +kernel)
theorem tml_L_38 : (Cond.methodLink RL 38 yX0_drop) ∈ TB := tb_r 146 (by decide +kernel) (by decide +kernel)
theorem tim_yX0_drop : (Cond.instanceMethod yX0_drop) ∈ TB := tb_r 147 (by decide +kernel) (by decide +kernel)
theorem tse_yX0_drop : (Cond.selects RX0 yX0_drop yX0_drop) ∈ TB := tb_r 148 (by decide +kernel) (by decide +kernel)
theorem tco_yX0_drop : (Cond.code yX0_drop cX0_drop 6 (some .int)) ∈ TB := tb_r 149 (by decide +kernel) (by decide +kernel)
theorem tml_L_43 : (Cond.methodLink RL 43 yX0_has) ∈ TB := tb_r 150 (by decide +kernel) (by decide +kernel)
theorem tim_yX0_has : (Cond.instanceMethod yX0_has) ∈ TB := tb_r 151 (by decide +kernel) (by decide +kernel)
theorem tse_yX0_has : (Cond.selects RX0 yX0_has yX0_has) ∈ TB := tb_r 152 (by decide +kernel) (by decide +kernel)
theorem tco_yX0_has : (Cond.code yX0_has cX0_has 3 (some .boolean)) ∈ TB := tb_r 153 (by decide +kernel) (by decide +kernel)
theorem tml_L_47 : (Cond.methodLink RL 47 yX0_get) ∈ TB := tb_r 154 (by decide +kernel) (by decide +kernel)
theorem tim_yX0_get : (Cond.instanceMethod yX0_get) ∈ TB := tb_r 155 (by decide +kernel) (by decide +kernel)
theorem tse_yX0_get : (Cond.selects RX0 yX0_get yX0_get) ∈ TB := tb_r 156 (by decide +kernel) (by decide +kernel)
theorem tco_yX0_get : (Cond.code yX0_get cX0_get 4 (some .long)) ∈ TB := tb_r 157 (by decide +kernel) (by decide +kernel)
theorem tml_L_52 : (Cond.methodLink RL 52 yX0_floor) ∈ TB := tb_r 158 (by decide +kernel) (by decide +kernel)
theorem tim_yX0_floor : (Cond.instanceMethod yX0_floor) ∈ TB := tb_r 159 (by decide +kernel) (by decide +kernel)
theorem tse_yX0_floor : (Cond.selects RX0 yX0_floor yX0_floor) ∈ TB := tb_r 160 (by decide +kernel) (by decide +kernel)
theorem tco_yX0_floor : (Cond.code yX0_floor cX0_floor 4 (some .long)) ∈ TB := tb_r 161 (by decide +kernel) (by decide +kernel)
theorem tml_L_56 : (Cond.methodLink RL 56 yX0_ceiling) ∈ TB := tb_r 162 (by decide +kernel) (by decide +kernel)
theorem tim_yX0_ceiling : (Cond.instanceMethod yX0_ceiling) ∈ TB := tb_r 163 (by decide +kernel) (by decide +kernel)
theorem tse_yX0_ceiling : (Cond.selects RX0 yX0_ceiling yX0_ceiling) ∈ TB := tb_r 164 (by decide +kernel) (by decide +kernel)
theorem tco_yX0_ceiling : (Cond.code yX0_ceiling cX0_ceiling 4 (some .long)) ∈ TB := tb_r 165 (by decide +kernel) (by decide +kernel)
theorem tml_L_60 : (Cond.methodLink RL 60 yX0_select) ∈ TB := tb_r 166 (by decide +kernel) (by decide +kernel)
theorem tim_yX0_select : (Cond.instanceMethod yX0_select) ∈ TB := tb_r 167 (by decide +kernel) (by decide +kernel)
theorem tse_yX0_select : (Cond.selects RX0 yX0_select yX0_select) ∈ TB := tb_r 168 (by decide +kernel) (by decide +kernel)
theorem tco_yX0_select : (Cond.code yX0_select cX0_select 4 (some .long)) ∈ TB := tb_r 169 (by decide +kernel) (by decide +kernel)
theorem tml_L_65 : (Cond.methodLink RL 65 yX0_count) ∈ TB := tb_r 170 (by decide +kernel) (by decide +kernel)
theorem tim_yX0_count : (Cond.instanceMethod yX0_count) ∈ TB := tb_r 171 (by decide +kernel) (by decide +kernel)
theorem tse_yX0_count : (Cond.selects RX0 yX0_count yX0_count) ∈ TB := tb_r 172 (by decide +kernel) (by decide +kernel)
theorem tco_yX0_count : (Cond.code yX0_count cX0_count 7 (some .int)) ∈ TB := tb_r 173 (by decide +kernel) (by decide +kernel)
theorem tml_X0_65 : (Cond.methodLink RX0 65 yX0_isHeldBetween) ∈ TB := tb_r 174 (by decide +kernel) (by decide +kernel)
theorem tim_yX0_isHeldBetween : (Cond.instanceMethod yX0_isHeldBetween) ∈ TB := tb_r 176 (by decide +kernel) (by decide +kernel)
theorem tco_yX0_isHeldBetween : (Cond.code yX0_isHeldBetween cX0_isHeldBetween 8 (some .boolean)) ∈ TB := tb_r 177 (by decide +kernel) (by decide +kernel)
theorem tml_L_69 : (Cond.methodLink RL 69 yX0_sum) ∈ TB := tb_r 178 (by decide +kernel) (by decide +kernel)
theorem tim_yX0_sum : (Cond.instanceMethod yX0_sum) ∈ TB := tb_r 179 (by decide +kernel) (by decide +kernel)
theorem tse_yX0_sum : (Cond.selects RX0 yX0_sum yX0_sum) ∈ TB := tb_r 180 (by decide +kernel) (by decide +kernel)
theorem tco_yX0_sum : (Cond.code yX0_sum cX0_sum 8 (some .long)) ∈ TB := tb_r 181 (by decide +kernel) (by decide +kernel)
theorem tml_L_74 : (Cond.methodLink RL 74 yX0_size) ∈ TB := tb_r 182 (by decide +kernel) (by decide +kernel)
theorem tim_yX0_size : (Cond.instanceMethod yX0_size) ∈ TB := tb_r 183 (by decide +kernel) (by decide +kernel)
theorem tse_yX0_size : (Cond.selects RX0 yX0_size yX0_size) ∈ TB := tb_r 184 (by decide +kernel) (by decide +kernel)
theorem tco_yX0_size : (Cond.code yX0_size cX0_size 1 (some .int)) ∈ TB := tb_r 185 (by decide +kernel) (by decide +kernel)
theorem tml_L_79 : (Cond.methodLink RL 79 yX0_cells) ∈ TB := tb_r 186 (by decide +kernel) (by decide +kernel)
theorem tml_L_83 : (Cond.methodLink RL 83 yX0_cellKey) ∈ TB := tb_r 187 (by decide +kernel) (by decide +kernel)
theorem tim_yX0_cellKey : (Cond.instanceMethod yX0_cellKey) ∈ TB := tb_r 188 (by decide +kernel) (by decide +kernel)
theorem tse_yX0_cellKey : (Cond.selects RX0 yX0_cellKey yX0_cellKey) ∈ TB := tb_r 189 (by decide +kernel) (by decide +kernel)
theorem tco_yX0_cellKey : (Cond.code yX0_cellKey cX0_cellKey 2 (some .long)) ∈ TB := tb_r 190 (by decide +kernel) (by decide +kernel)
theorem tml_L_87 : (Cond.methodLink RL 87 yX0_place) ∈ TB := tb_r 191 (by decide +kernel) (by decide +kernel)
theorem tim_yX0_place : (Cond.instanceMethod yX0_place) ∈ TB := tb_r 192 (by decide +kernel) (by decide +kernel)
theorem tse_yX0_place : (Cond.selects RX0 yX0_place yX0_place) ∈ TB := tb_r 193 (by decide +kernel) (by decide +kernel)
theorem tco_yX0_place : (Cond.code yX0_place cX0_place 2 (some .int)) ∈ TB := tb_r 194 (by decide +kernel) (by decide +kernel)
theorem tml_X0_80 : (Cond.methodLink RX0 80 yX0_placeInTree) ∈ TB := tb_r 195 (by decide +kernel) (by decide +kernel)
theorem tst_yX0_placeInTree : (Cond.static yX0_placeInTree) ∈ TB := tb_r 196 (by decide +kernel) (by decide +kernel)
theorem tco_yX0_placeInTree : (Cond.code yX0_placeInTree cX0_placeInTree 7 (some .int)) ∈ TB := tb_r 197 (by decide +kernel) (by decide +kernel)
theorem tml_X0_100 : (Cond.methodLink RX0 100 yX0_nodesOfTree) ∈ TB := tb_r 198 (by decide +kernel) (by decide +kernel)
theorem tst_yX0_nodesOfTree : (Cond.static yX0_nodesOfTree) ∈ TB := tb_r 199 (by decide +kernel) (by decide +kernel)
theorem tco_yX0_nodesOfTree : (Cond.code yX0_nodesOfTree cX0_nodesOfTree 1 (some .int)) ∈ TB := tb_r 200 (by decide +kernel) (by decide +kernel)
theorem tml_L_92 : (Cond.methodLink RL 92 yX0_borne) ∈ TB := tb_r 201 (by decide +kernel) (by decide +kernel)
theorem tim_yX0_borne : (Cond.instanceMethod yX0_borne) ∈ TB := tb_r 202 (by decide +kernel) (by decide +kernel)
theorem tse_yX0_borne : (Cond.selects RX0 yX0_borne yX0_borne) ∈ TB := tb_r 203 (by decide +kernel) (by decide +kernel)
theorem tco_yX0_borne : (Cond.code yX0_borne cX0_borne 3 (some .long)) ∈ TB := tb_r 204 (by decide +kernel) (by decide +kernel)
theorem tml_L_96 : (Cond.methodLink RL 96 yX0_touched) ∈ TB := tb_r 205 (by decide +kernel) (by decide +kernel)
theorem tim_yX0_touched : (Cond.instanceMethod yX0_touched) ∈ TB := tb_r 206 (by decide +kernel) (by decide +kernel)
theorem tse_yX0_touched : (Cond.selects RX0 yX0_touched yX0_touched) ∈ TB := tb_r 207 (by decide +kernel) (by decide +kernel)
theorem tco_yX0_touched : (Cond.code yX0_touched cX0_touched 8 (some .int)) ∈ TB := tb_r 208 (by decide +kernel) (by decide +kernel)
theorem tml_X0_90 : (Cond.methodLink RX0 90 yX0_noteBlock) ∈ TB := tb_r 209 (by decide +kernel) (by decide +kernel)
theorem tim_yX0_noteBlock : (Cond.instanceMethod yX0_noteBlock) ∈ TB := tb_r 211 (by decide +kernel) (by decide +kernel)
theorem tco_yX0_noteBlock : (Cond.code yX0_noteBlock cX0_noteBlock 4 (some .int)) ∈ TB := tb_r 212 (by decide +kernel) (by decide +kernel)
theorem tml_L_100 : (Cond.methodLink RL 100 yX0_window) ∈ TB := tb_r 213 (by decide +kernel) (by decide +kernel)
theorem tim_yX0_window : (Cond.instanceMethod yX0_window) ∈ TB := tb_r 214 (by decide +kernel) (by decide +kernel)
theorem tse_yX0_window : (Cond.selects RX0 yX0_window yX0_window) ∈ TB := tb_r 215 (by decide +kernel) (by decide +kernel)
theorem tco_yX0_window : (Cond.code yX0_window cX0_window 1 (some .int)) ∈ TB := tb_r 216 (by decide +kernel) (by decide +kernel)
theorem tml_L_104 : (Cond.methodLink RL 104 yX0_moved) ∈ TB := tb_r 217 (by decide +kernel) (by decide +kernel)
theorem tim_yX0_moved : (Cond.instanceMethod yX0_moved) ∈ TB := tb_r 218 (by decide +kernel) (by decide +kernel)
theorem tse_yX0_moved : (Cond.selects RX0 yX0_moved yX0_moved) ∈ TB := tb_r 219 (by decide +kernel) (by decide +kernel)
theorem tco_yX0_moved : (Cond.code yX0_moved cX0_moved 1 (some .long)) ∈ TB := tb_r 220 (by decide +kernel) (by decide +kernel)
theorem tml_L_9 : (Cond.methodLink RL 9 yL_cell) ∈ TB := tb_r 221 (by decide +kernel) (by decide +kernel)
theorem tst_yL_cell : (Cond.static yL_cell) ∈ TB := tb_r 222 (by decide +kernel) (by decide +kernel)
theorem tco_yL_cell : (Cond.code yL_cell cL_cell 2 (some .int)) ∈ TB := tb_r 223 (by decide +kernel) (by decide +kernel)
theorem tcl_L_18 : (Cond.classLink RL 18 RX1) ∈ TB := tb_r 224 (by decide +kernel) (by decide +kernel)
theorem tis_X1 : (Cond.instantiable RX1 10) ∈ TB := tb_r 225 (by decide +kernel) (by decide +kernel)
theorem tml_L_20 : (Cond.methodLink RL 20 yX1_init) ∈ TB := tb_r 226 (by decide +kernel) (by decide +kernel)
theorem tim_yX1_init : (Cond.instanceMethod yX1_init) ∈ TB := tb_r 227 (by decide +kernel) (by decide +kernel)
theorem tco_yX1_init : (Cond.code yX1_init cX1_init 2 none) ∈ TB := tb_r 228 (by decide +kernel) (by decide +kernel)
theorem tml_X1_1 : (Cond.methodLink RX1 1 objectInit) ∈ TB := tb_r 229 (by decide +kernel) (by decide +kernel)
theorem tfl_X1_30 : (Cond.fieldLink RX1 30 "GappedStoreModel" "least" "I") ∈ TB := tb_r 230 (by decide +kernel) (by decide +kernel)
theorem tfl_X1_33 : (Cond.fieldLink RX1 33 "GappedStoreModel" "cells" "I") ∈ TB := tb_r 231 (by decide +kernel) (by decide +kernel)
theorem tfl_X1_7 : (Cond.fieldLink RX1 7 "GappedStoreModel" "full" "[Z") ∈ TB := tb_r 232 (by decide +kernel) (by decide +kernel)
theorem tfl_X1_13 : (Cond.fieldLink RX1 13 "GappedStoreModel" "keys" "[J") ∈ TB := tb_r 233 (by decide +kernel) (by decide +kernel)
theorem tfl_X1_17 : (Cond.fieldLink RX1 17 "GappedStoreModel" "values" "[J") ∈ TB := tb_r 234 (by decide +kernel) (by decide +kernel)
theorem tfl_X1_20 : (Cond.fieldLink RX1 20 "GappedStoreModel" "window" "I") ∈ TB := tb_r 235 (by decide +kernel) (by decide +kernel)
theorem tfl_X1_75 : (Cond.fieldLink RX1 75 "GappedStoreModel" "moved" "J") ∈ TB := tb_r 236 (by decide +kernel) (by decide +kernel)
theorem tfl_X1_72 : (Cond.fieldLink RX1 72 "GappedStoreModel" "waiting" "I") ∈ TB := tb_r 237 (by decide +kernel) (by decide +kernel)
theorem tfl_X1_24 : (Cond.fieldLink RX1 24 "GappedStoreModel" "waitKeys" "[J") ∈ TB := tb_r 238 (by decide +kernel) (by decide +kernel)
theorem tfl_X1_27 : (Cond.fieldLink RX1 27 "GappedStoreModel" "waitValues" "[J") ∈ TB := tb_r 239 (by decide +kernel) (by decide +kernel)
theorem tar_boolean : (Cond.arrayClass .boolean) ∈ TB := tb_r 261 (by decide +kernel) (by decide +kernel)
theorem tml_L_91 : (Cond.methodLink RL 91 yX1_place) ∈ TB := tb_r 262 (by decide +kernel) (by decide +kernel)
theorem tim_yX1_place : (Cond.instanceMethod yX1_place) ∈ TB := tb_r 263 (by decide +kernel) (by decide +kernel)
theorem tse_yX1_place : (Cond.selects RX1 yX1_place yX1_place) ∈ TB := tb_r 264 (by decide +kernel) (by decide +kernel)
theorem tco_yX1_place : (Cond.code yX1_place cX1_place 2 (some .int)) ∈ TB := tb_r 265 (by decide +kernel) (by decide +kernel)
theorem tml_X1_61 : (Cond.methodLink RX1 61 yX1_isNode) ∈ TB := tb_r 266 (by decide +kernel) (by decide +kernel)
theorem tim_yX1_isNode : (Cond.instanceMethod yX1_isNode) ∈ TB := tb_r 268 (by decide +kernel) (by decide +kernel)
theorem tco_yX1_isNode : (Cond.code yX1_isNode cX1_isNode 2 (some .boolean)) ∈ TB := tb_r 269 (by decide +kernel) (by decide +kernel)
theorem tml_X1_36 : (Cond.methodLink RX1 36 yX1_segments) ∈ TB := tb_r 270 (by decide +kernel) (by decide +kernel)
theorem tim_yX1_segments : (Cond.instanceMethod yX1_segments) ∈ TB := tb_r 272 (by decide +kernel) (by decide +kernel)
theorem tco_yX1_segments : (Cond.code yX1_segments cX1_segments 1 (some .int)) ∈ TB := tb_r 273 (by decide +kernel) (by decide +kernel)
theorem tml_X1_65 : (Cond.methodLink RX1 65 yX1_placeOf) ∈ TB := tb_r 274 (by decide +kernel) (by decide +kernel)
theorem tim_yX1_placeOf : (Cond.instanceMethod yX1_placeOf) ∈ TB := tb_r 276 (by decide +kernel) (by decide +kernel)
theorem tco_yX1_placeOf : (Cond.code yX1_placeOf cX1_placeOf 9 (some .int)) ∈ TB := tb_r 277 (by decide +kernel) (by decide +kernel)
theorem tml_X1_58 : (Cond.methodLink RX1 58 yX1_levels) ∈ TB := tb_r 278 (by decide +kernel) (by decide +kernel)
theorem tim_yX1_levels : (Cond.instanceMethod yX1_levels) ∈ TB := tb_r 280 (by decide +kernel) (by decide +kernel)
theorem tco_yX1_levels : (Cond.code yX1_levels cX1_levels 3 (some .int)) ∈ TB := tb_r 281 (by decide +kernel) (by decide +kernel)
theorem tml_X1_42 : (Cond.methodLink RX1 42 yX1_levelOf) ∈ TB := tb_r 282 (by decide +kernel) (by decide +kernel)
theorem tst_yX1_levelOf : (Cond.static yX1_levelOf) ∈ TB := tb_r 283 (by decide +kernel) (by decide +kernel)
theorem tco_yX1_levelOf : (Cond.code yX1_levelOf cX1_levelOf 3 (some .int)) ∈ TB := tb_r 284 (by decide +kernel) (by decide +kernel)
theorem tml_L_95 : (Cond.methodLink RL 95 yX1_borne) ∈ TB := tb_r 285 (by decide +kernel) (by decide +kernel)
theorem tim_yX1_borne : (Cond.instanceMethod yX1_borne) ∈ TB := tb_r 286 (by decide +kernel) (by decide +kernel)
theorem tse_yX1_borne : (Cond.selects RX1 yX1_borne yX1_borne) ∈ TB := tb_r 287 (by decide +kernel) (by decide +kernel)
theorem tco_yX1_borne : (Cond.code yX1_borne cX1_borne 5 (some .long)) ∈ TB := tb_r 288 (by decide +kernel) (by decide +kernel)
theorem tcn_X1_40 : (Cond.constantLong RX1 40 NOK) ∈ TB := tb_r 289 (by decide +kernel) (by decide +kernel)
theorem tml_X1_50 : (Cond.methodLink RX1 50 yX1_bears) ∈ TB := tb_r 290 (by decide +kernel) (by decide +kernel)
theorem tim_yX1_bears : (Cond.instanceMethod yX1_bears) ∈ TB := tb_r 292 (by decide +kernel) (by decide +kernel)
theorem tco_yX1_bears : (Cond.code yX1_bears cX1_bears 4 (some .long)) ∈ TB := tb_r 293 (by decide +kernel) (by decide +kernel)
theorem tml_X1_46 : (Cond.methodLink RX1 46 yX1_greatest) ∈ TB := tb_r 294 (by decide +kernel) (by decide +kernel)
theorem tim_yX1_greatest : (Cond.instanceMethod yX1_greatest) ∈ TB := tb_r 296 (by decide +kernel) (by decide +kernel)
theorem tco_yX1_greatest : (Cond.code yX1_greatest cX1_greatest 6 (some .long)) ∈ TB := tb_r 297 (by decide +kernel) (by decide +kernel)
theorem tml_L_99 : (Cond.methodLink RL 99 yX1_touched) ∈ TB := tb_r 298 (by decide +kernel) (by decide +kernel)
theorem tim_yX1_touched : (Cond.instanceMethod yX1_touched) ∈ TB := tb_r 299 (by decide +kernel) (by decide +kernel)
theorem tse_yX1_touched : (Cond.selects RX1 yX1_touched yX1_touched) ∈ TB := tb_r 300 (by decide +kernel) (by decide +kernel)
theorem tco_yX1_touched : (Cond.code yX1_touched cX1_touched 10 (some .int)) ∈ TB := tb_r 301 (by decide +kernel) (by decide +kernel)
theorem tml_X1_68 : (Cond.methodLink RX1 68 yX1_seek) ∈ TB := tb_r 302 (by decide +kernel) (by decide +kernel)
theorem tim_yX1_seek : (Cond.instanceMethod yX1_seek) ∈ TB := tb_r 304 (by decide +kernel) (by decide +kernel)
theorem tco_yX1_seek : (Cond.code yX1_seek cX1_seek 4 (some .int)) ∈ TB := tb_r 305 (by decide +kernel) (by decide +kernel)
theorem tml_X1_54 : (Cond.methodLink RX1 54 yX1_step) ∈ TB := tb_r 306 (by decide +kernel) (by decide +kernel)
theorem tim_yX1_step : (Cond.instanceMethod yX1_step) ∈ TB := tb_r 308 (by decide +kernel) (by decide +kernel)
theorem tco_yX1_step : (Cond.code yX1_step cX1_step 6 (some .int)) ∈ TB := tb_r 309 (by decide +kernel) (by decide +kernel)
theorem tml_L_27 : (Cond.methodLink RL 27 yX1_put) ∈ TB := tb_r 310 (by decide +kernel) (by decide +kernel)
theorem tim_yX1_put : (Cond.instanceMethod yX1_put) ∈ TB := tb_r 311 (by decide +kernel) (by decide +kernel)
theorem tse_yX1_put : (Cond.selects RX1 yX1_put yX1_put) ∈ TB := tb_r 312 (by decide +kernel) (by decide +kernel)
theorem tco_yX1_put : (Cond.code yX1_put cX1_put 10 (some .int)) ∈ TB := tb_r 313 (by decide +kernel) (by decide +kernel)
theorem tml_X1_79 : (Cond.methodLink RX1 79 yX1_cellOf) ∈ TB := tb_r 314 (by decide +kernel) (by decide +kernel)
theorem tim_yX1_cellOf : (Cond.instanceMethod yX1_cellOf) ∈ TB := tb_r 316 (by decide +kernel) (by decide +kernel)
theorem tco_yX1_cellOf : (Cond.code yX1_cellOf cX1_cellOf 5 (some .int)) ∈ TB := tb_r 317 (by decide +kernel) (by decide +kernel)
theorem tml_X1_82 : (Cond.methodLink RX1 82 yX1_firstOf) ∈ TB := tb_r 318 (by decide +kernel) (by decide +kernel)
theorem tst_yX1_firstOf : (Cond.static yX1_firstOf) ∈ TB := tb_r 319 (by decide +kernel) (by decide +kernel)
theorem tco_yX1_firstOf : (Cond.code yX1_firstOf cX1_firstOf 2 (some .int)) ∈ TB := tb_r 320 (by decide +kernel) (by decide +kernel)
theorem tml_X1_86 : (Cond.methodLink RX1 86 yX1_held) ∈ TB := tb_r 321 (by decide +kernel) (by decide +kernel)
theorem tim_yX1_held : (Cond.instanceMethod yX1_held) ∈ TB := tb_r 323 (by decide +kernel) (by decide +kernel)
theorem tco_yX1_held : (Cond.code yX1_held cX1_held 5 (some .int)) ∈ TB := tb_r 324 (by decide +kernel) (by decide +kernel)
theorem tml_X1_89 : (Cond.methodLink RX1 89 yX1_most) ∈ TB := tb_r 325 (by decide +kernel) (by decide +kernel)
theorem tim_yX1_most : (Cond.instanceMethod yX1_most) ∈ TB := tb_r 327 (by decide +kernel) (by decide +kernel)
theorem tco_yX1_most : (Cond.code yX1_most cX1_most 3 (some .int)) ∈ TB := tb_r 328 (by decide +kernel) (by decide +kernel)
theorem tml_X1_92 : (Cond.methodLink RX1 92 yX1_lift) ∈ TB := tb_r 329 (by decide +kernel) (by decide +kernel)
theorem tim_yX1_lift : (Cond.instanceMethod yX1_lift) ∈ TB := tb_r 331 (by decide +kernel) (by decide +kernel)
theorem tco_yX1_lift : (Cond.code yX1_lift cX1_lift 4 none) ∈ TB := tb_r 332 (by decide +kernel) (by decide +kernel)
theorem tml_X1_96 : (Cond.methodLink RX1 96 yX1_join) ∈ TB := tb_r 333 (by decide +kernel) (by decide +kernel)
theorem tim_yX1_join : (Cond.instanceMethod yX1_join) ∈ TB := tb_r 335 (by decide +kernel) (by decide +kernel)
theorem tco_yX1_join : (Cond.code yX1_join cX1_join 6 none) ∈ TB := tb_r 336 (by decide +kernel) (by decide +kernel)
theorem tml_X1_100 : (Cond.methodLink RX1 100 yX1_spread) ∈ TB := tb_r 337 (by decide +kernel) (by decide +kernel)
theorem tim_yX1_spread : (Cond.instanceMethod yX1_spread) ∈ TB := tb_r 339 (by decide +kernel) (by decide +kernel)
theorem tco_yX1_spread : (Cond.code yX1_spread cX1_spread 6 none) ∈ TB := tb_r 340 (by decide +kernel) (by decide +kernel)
theorem tml_L_32 : (Cond.methodLink RL 32 yX1_fill) ∈ TB := tb_r 341 (by decide +kernel) (by decide +kernel)
theorem tim_yX1_fill : (Cond.instanceMethod yX1_fill) ∈ TB := tb_r 342 (by decide +kernel) (by decide +kernel)
theorem tse_yX1_fill : (Cond.selects RX1 yX1_fill yX1_fill) ∈ TB := tb_r 343 (by decide +kernel) (by decide +kernel)
theorem tco_yX1_fill : (Cond.code yX1_fill cX1_fill 11 (some .int)) ∈ TB := tb_r 344 (by decide +kernel) (by decide +kernel)
theorem tml_X1_103 : (Cond.methodLink RX1 103 yX1_put) ∈ TB := tb_r 345 (by decide +kernel) (by decide +kernel)
theorem tml_L_37 : (Cond.methodLink RL 37 yX1_remove) ∈ TB := tb_r 346 (by decide +kernel) (by decide +kernel)
theorem tim_yX1_remove : (Cond.instanceMethod yX1_remove) ∈ TB := tb_r 347 (by decide +kernel) (by decide +kernel)
theorem tse_yX1_remove : (Cond.selects RX1 yX1_remove yX1_remove) ∈ TB := tb_r 348 (by decide +kernel) (by decide +kernel)
theorem tco_yX1_remove : (Cond.code yX1_remove cX1_remove 7 (some .boolean)) ∈ TB := tb_r 349 (by decide +kernel) (by decide +kernel)
theorem tml_X1_107 : (Cond.methodLink RX1 107 yX1_fewest) ∈ TB := tb_r 350 (by decide +kernel) (by decide +kernel)
theorem tim_yX1_fewest : (Cond.instanceMethod yX1_fewest) ∈ TB := tb_r 352 (by decide +kernel) (by decide +kernel)
theorem tco_yX1_fewest : (Cond.code yX1_fewest cX1_fewest 3 (some .int)) ∈ TB := tb_r 353 (by decide +kernel) (by decide +kernel)
theorem tml_L_42 : (Cond.methodLink RL 42 yX1_drop) ∈ TB := tb_r 354 (by decide +kernel) (by decide +kernel)
theorem tim_yX1_drop : (Cond.instanceMethod yX1_drop) ∈ TB := tb_r 355 (by decide +kernel) (by decide +kernel)
theorem tse_yX1_drop : (Cond.selects RX1 yX1_drop yX1_drop) ∈ TB := tb_r 356 (by decide +kernel) (by decide +kernel)
theorem tco_yX1_drop : (Cond.code yX1_drop cX1_drop 9 (some .int)) ∈ TB := tb_r 357 (by decide +kernel) (by decide +kernel)
theorem tml_X1_110 : (Cond.methodLink RX1 110 yX1_ceiling) ∈ TB := tb_r 358 (by decide +kernel) (by decide +kernel)
theorem tim_yX1_ceiling : (Cond.instanceMethod yX1_ceiling) ∈ TB := tb_r 359 (by decide +kernel) (by decide +kernel)
theorem tse_yX1_ceiling : (Cond.selects RX1 yX1_ceiling yX1_ceiling) ∈ TB := tb_r 360 (by decide +kernel) (by decide +kernel)
theorem tco_yX1_ceiling : (Cond.code yX1_ceiling cX1_ceiling 6 (some .long)) ∈ TB := tb_r 361 (by decide +kernel) (by decide +kernel)
theorem tml_X1_114 : (Cond.methodLink RX1 114 yX1_remove) ∈ TB := tb_r 362 (by decide +kernel) (by decide +kernel)
theorem tml_L_46 : (Cond.methodLink RL 46 yX1_has) ∈ TB := tb_r 363 (by decide +kernel) (by decide +kernel)
theorem tim_yX1_has : (Cond.instanceMethod yX1_has) ∈ TB := tb_r 364 (by decide +kernel) (by decide +kernel)
theorem tse_yX1_has : (Cond.selects RX1 yX1_has yX1_has) ∈ TB := tb_r 365 (by decide +kernel) (by decide +kernel)
theorem tco_yX1_has : (Cond.code yX1_has cX1_has 3 (some .boolean)) ∈ TB := tb_r 366 (by decide +kernel) (by decide +kernel)
theorem tml_L_51 : (Cond.methodLink RL 51 yX1_get) ∈ TB := tb_r 367 (by decide +kernel) (by decide +kernel)
theorem tim_yX1_get : (Cond.instanceMethod yX1_get) ∈ TB := tb_r 368 (by decide +kernel) (by decide +kernel)
theorem tse_yX1_get : (Cond.selects RX1 yX1_get yX1_get) ∈ TB := tb_r 369 (by decide +kernel) (by decide +kernel)
theorem tco_yX1_get : (Cond.code yX1_get cX1_get 4 (some .long)) ∈ TB := tb_r 370 (by decide +kernel) (by decide +kernel)
theorem tml_L_55 : (Cond.methodLink RL 55 yX1_floor) ∈ TB := tb_r 371 (by decide +kernel) (by decide +kernel)
theorem tim_yX1_floor : (Cond.instanceMethod yX1_floor) ∈ TB := tb_r 372 (by decide +kernel) (by decide +kernel)
theorem tse_yX1_floor : (Cond.selects RX1 yX1_floor yX1_floor) ∈ TB := tb_r 373 (by decide +kernel) (by decide +kernel)
theorem tco_yX1_floor : (Cond.code yX1_floor cX1_floor 6 (some .long)) ∈ TB := tb_r 374 (by decide +kernel) (by decide +kernel)
theorem tml_L_59 : (Cond.methodLink RL 59 yX1_ceiling) ∈ TB := tb_r 375 (by decide +kernel) (by decide +kernel)
theorem tml_L_64 : (Cond.methodLink RL 64 yX1_select) ∈ TB := tb_r 376 (by decide +kernel) (by decide +kernel)
theorem tim_yX1_select : (Cond.instanceMethod yX1_select) ∈ TB := tb_r 377 (by decide +kernel) (by decide +kernel)
theorem tse_yX1_select : (Cond.selects RX1 yX1_select yX1_select) ∈ TB := tb_r 378 (by decide +kernel) (by decide +kernel)
theorem tco_yX1_select : (Cond.code yX1_select cX1_select 6 (some .long)) ∈ TB := tb_r 379 (by decide +kernel) (by decide +kernel)
theorem tml_L_68 : (Cond.methodLink RL 68 yX1_count) ∈ TB := tb_r 380 (by decide +kernel) (by decide +kernel)
theorem tim_yX1_count : (Cond.instanceMethod yX1_count) ∈ TB := tb_r 381 (by decide +kernel) (by decide +kernel)
theorem tse_yX1_count : (Cond.selects RX1 yX1_count yX1_count) ∈ TB := tb_r 382 (by decide +kernel) (by decide +kernel)
theorem tco_yX1_count : (Cond.code yX1_count cX1_count 7 (some .int)) ∈ TB := tb_r 383 (by decide +kernel) (by decide +kernel)
theorem tml_L_73 : (Cond.methodLink RL 73 yX1_sum) ∈ TB := tb_r 384 (by decide +kernel) (by decide +kernel)
theorem tim_yX1_sum : (Cond.instanceMethod yX1_sum) ∈ TB := tb_r 385 (by decide +kernel) (by decide +kernel)
theorem tse_yX1_sum : (Cond.selects RX1 yX1_sum yX1_sum) ∈ TB := tb_r 386 (by decide +kernel) (by decide +kernel)
theorem tco_yX1_sum : (Cond.code yX1_sum cX1_sum 8 (some .long)) ∈ TB := tb_r 387 (by decide +kernel) (by decide +kernel)
theorem tml_L_78 : (Cond.methodLink RL 78 yX1_size) ∈ TB := tb_r 388 (by decide +kernel) (by decide +kernel)
theorem tim_yX1_size : (Cond.instanceMethod yX1_size) ∈ TB := tb_r 389 (by decide +kernel) (by decide +kernel)
theorem tse_yX1_size : (Cond.selects RX1 yX1_size yX1_size) ∈ TB := tb_r 390 (by decide +kernel) (by decide +kernel)
theorem tco_yX1_size : (Cond.code yX1_size cX1_size 1 (some .int)) ∈ TB := tb_r 391 (by decide +kernel) (by decide +kernel)
theorem tml_L_82 : (Cond.methodLink RL 82 yX1_cells) ∈ TB := tb_r 392 (by decide +kernel) (by decide +kernel)
theorem tim_yX1_cells : (Cond.instanceMethod yX1_cells) ∈ TB := tb_r 393 (by decide +kernel) (by decide +kernel)
theorem tse_yX1_cells : (Cond.selects RX1 yX1_cells yX1_cells) ∈ TB := tb_r 394 (by decide +kernel) (by decide +kernel)
theorem tco_yX1_cells : (Cond.code yX1_cells cX1_cells 1 (some .int)) ∈ TB := tb_r 395 (by decide +kernel) (by decide +kernel)
theorem tml_L_86 : (Cond.methodLink RL 86 yX1_cellKey) ∈ TB := tb_r 396 (by decide +kernel) (by decide +kernel)
theorem tim_yX1_cellKey : (Cond.instanceMethod yX1_cellKey) ∈ TB := tb_r 397 (by decide +kernel) (by decide +kernel)
theorem tse_yX1_cellKey : (Cond.selects RX1 yX1_cellKey yX1_cellKey) ∈ TB := tb_r 398 (by decide +kernel) (by decide +kernel)
theorem tco_yX1_cellKey : (Cond.code yX1_cellKey cX1_cellKey 2 (some .long)) ∈ TB := tb_r 399 (by decide +kernel) (by decide +kernel)
theorem tml_L_103 : (Cond.methodLink RL 103 yX1_window) ∈ TB := tb_r 400 (by decide +kernel) (by decide +kernel)
theorem tim_yX1_window : (Cond.instanceMethod yX1_window) ∈ TB := tb_r 401 (by decide +kernel) (by decide +kernel)
theorem tse_yX1_window : (Cond.selects RX1 yX1_window yX1_window) ∈ TB := tb_r 402 (by decide +kernel) (by decide +kernel)
theorem tco_yX1_window : (Cond.code yX1_window cX1_window 1 (some .int)) ∈ TB := tb_r 403 (by decide +kernel) (by decide +kernel)
theorem tml_L_108 : (Cond.methodLink RL 108 yX1_moved) ∈ TB := tb_r 404 (by decide +kernel) (by decide +kernel)
theorem tim_yX1_moved : (Cond.instanceMethod yX1_moved) ∈ TB := tb_r 405 (by decide +kernel) (by decide +kernel)
theorem tse_yX1_moved : (Cond.selects RX1 yX1_moved yX1_moved) ∈ TB := tb_r 406 (by decide +kernel) (by decide +kernel)
theorem tco_yX1_moved : (Cond.code yX1_moved cX1_moved 1 (some .long)) ∈ TB := tb_r 407 (by decide +kernel) (by decide +kernel)
theorem tcn_L_21 : (Cond.constantLong RL 21 4294967295) ∈ TB := tb_r 408 (by decide +kernel) (by decide +kernel)
theorem tse_yX0_cellOf : (Cond.selects RX0 yX0_cellOf yX0_cellOf) ∈ TB := tb_l 0 (by decide +kernel) (by decide +kernel)
theorem tse_yX0_cellNotBelow : (Cond.selects RX0 yX0_cellNotBelow yX0_cellNotBelow) ∈ TB := tb_l 1 (by decide +kernel) (by decide +kernel)
theorem tse_yX0_seek : (Cond.selects RX0 yX0_seek yX0_seek) ∈ TB := tb_l 2 (by decide +kernel) (by decide +kernel)
theorem tse_yX0_borneBy : (Cond.selects RX0 yX0_borneBy yX0_borneBy) ∈ TB := tb_l 3 (by decide +kernel) (by decide +kernel)
theorem tse_yX0_segments : (Cond.selects RX0 yX0_segments yX0_segments) ∈ TB := tb_l 4 (by decide +kernel) (by decide +kernel)
theorem tse_yX0_greatestKey : (Cond.selects RX0 yX0_greatestKey yX0_greatestKey) ∈ TB := tb_l 5 (by decide +kernel) (by decide +kernel)
theorem tse_yX0_putNew : (Cond.selects RX0 yX0_putNew yX0_putNew) ∈ TB := tb_l 6 (by decide +kernel) (by decide +kernel)
theorem tse_yX0_heightWithRoom : (Cond.selects RX0 yX0_heightWithRoom yX0_heightWithRoom) ∈ TB := tb_l 7 (by decide +kernel) (by decide +kernel)
theorem tse_yX0_keysInWindow : (Cond.selects RX0 yX0_keysInWindow yX0_keysInWindow) ∈ TB := tb_l 8 (by decide +kernel) (by decide +kernel)
theorem tse_yX0_keysAmong : (Cond.selects RX0 yX0_keysAmong yX0_keysAmong) ∈ TB := tb_l 9 (by decide +kernel) (by decide +kernel)
theorem tse_yX0_mostKeys : (Cond.selects RX0 yX0_mostKeys yX0_mostKeys) ∈ TB := tb_l 10 (by decide +kernel) (by decide +kernel)
theorem tse_yX0_pack : (Cond.selects RX0 yX0_pack yX0_pack) ∈ TB := tb_l 11 (by decide +kernel) (by decide +kernel)
theorem tse_yX0_shift : (Cond.selects RX0 yX0_shift yX0_shift) ∈ TB := tb_l 12 (by decide +kernel) (by decide +kernel)
theorem tse_yX0_clear : (Cond.selects RX0 yX0_clear yX0_clear) ∈ TB := tb_l 13 (by decide +kernel) (by decide +kernel)
theorem tse_yX0_insertPacked : (Cond.selects RX0 yX0_insertPacked yX0_insertPacked) ∈ TB := tb_l 14 (by decide +kernel) (by decide +kernel)
theorem tse_yX0_spreadPacked : (Cond.selects RX0 yX0_spreadPacked yX0_spreadPacked) ∈ TB := tb_l 15 (by decide +kernel) (by decide +kernel)
theorem tse_yX0_takeOut : (Cond.selects RX0 yX0_takeOut yX0_takeOut) ∈ TB := tb_l 16 (by decide +kernel) (by decide +kernel)
theorem tse_yX0_heightWithEnough : (Cond.selects RX0 yX0_heightWithEnough yX0_heightWithEnough) ∈ TB := tb_l 17 (by decide +kernel) (by decide +kernel)
theorem tse_yX0_fewestKeys : (Cond.selects RX0 yX0_fewestKeys yX0_fewestKeys) ∈ TB := tb_l 18 (by decide +kernel) (by decide +kernel)
theorem tse_yX0_halve : (Cond.selects RX0 yX0_halve yX0_halve) ∈ TB := tb_l 19 (by decide +kernel) (by decide +kernel)
theorem tse_yX0_isHeldBetween : (Cond.selects RX0 yX0_isHeldBetween yX0_isHeldBetween) ∈ TB := tb_l 20 (by decide +kernel) (by decide +kernel)
theorem tse_yX0_noteBlock : (Cond.selects RX0 yX0_noteBlock yX0_noteBlock) ∈ TB := tb_l 21 (by decide +kernel) (by decide +kernel)
theorem tse_yX1_isNode : (Cond.selects RX1 yX1_isNode yX1_isNode) ∈ TB := tb_l 22 (by decide +kernel) (by decide +kernel)
theorem tse_yX1_segments : (Cond.selects RX1 yX1_segments yX1_segments) ∈ TB := tb_l 23 (by decide +kernel) (by decide +kernel)
theorem tse_yX1_placeOf : (Cond.selects RX1 yX1_placeOf yX1_placeOf) ∈ TB := tb_l 24 (by decide +kernel) (by decide +kernel)
theorem tse_yX1_levels : (Cond.selects RX1 yX1_levels yX1_levels) ∈ TB := tb_l 25 (by decide +kernel) (by decide +kernel)
theorem tse_yX1_bears : (Cond.selects RX1 yX1_bears yX1_bears) ∈ TB := tb_l 26 (by decide +kernel) (by decide +kernel)
theorem tse_yX1_greatest : (Cond.selects RX1 yX1_greatest yX1_greatest) ∈ TB := tb_l 27 (by decide +kernel) (by decide +kernel)
theorem tse_yX1_seek : (Cond.selects RX1 yX1_seek yX1_seek) ∈ TB := tb_l 28 (by decide +kernel) (by decide +kernel)
theorem tse_yX1_step : (Cond.selects RX1 yX1_step yX1_step) ∈ TB := tb_l 29 (by decide +kernel) (by decide +kernel)
theorem tse_yX1_cellOf : (Cond.selects RX1 yX1_cellOf yX1_cellOf) ∈ TB := tb_l 30 (by decide +kernel) (by decide +kernel)
theorem tse_yX1_held : (Cond.selects RX1 yX1_held yX1_held) ∈ TB := tb_l 31 (by decide +kernel) (by decide +kernel)
theorem tse_yX1_most : (Cond.selects RX1 yX1_most yX1_most) ∈ TB := tb_l 32 (by decide +kernel) (by decide +kernel)
theorem tse_yX1_lift : (Cond.selects RX1 yX1_lift yX1_lift) ∈ TB := tb_l 33 (by decide +kernel) (by decide +kernel)
theorem tse_yX1_join : (Cond.selects RX1 yX1_join yX1_join) ∈ TB := tb_l 34 (by decide +kernel) (by decide +kernel)
theorem tse_yX1_spread : (Cond.selects RX1 yX1_spread yX1_spread) ∈ TB := tb_l 35 (by decide +kernel) (by decide +kernel)
theorem tse_yX1_fewest : (Cond.selects RX1 yX1_fewest yX1_fewest) ∈ TB := tb_l 36 (by decide +kernel) (by decide +kernel)
theorem tb_good {w : Cond} (h : w ∈ TB) : goodWord w = true := (List.mem_filter.mp h).2
theorem tb_in {w : Cond} (h : w ∈ TB) : w ∈ lw_tbl := (List.mem_filter.mp h).1
theorem g_of {big ws : List Cond} (h : ∀ w ∈ ws, w ∈ big ∧ w ∈ TB) : GoodIn big ws := fun w hw => ⟨(h w hw).1, good_of_word (tb_good (h w hw).2)⟩
theorem gV {c1 c2 : Cond} {own C : String} {idx : Nat} {y : MethodName} (h1 : (Cond.methodLink own idx y) ∈ TB) (h2 : (Cond.instanceMethod y) ∈ TB) (h3 : (Cond.selects C y y) ∈ TB) (h4 : (Cond.initialized C) ∈ TB) (h5 : c2 ∈ TB) : GoodIn (c1 :: TB) (wsV own idx C y (c2 :: TB)) := by
  refine g_of (fun w hw => ?_)
  have hm : w ∈ TB := by
    rcases List.mem_append.mp hw with q | q
    · rcases List.mem_cons.mp q with rfl | q
      · exact h1
      rcases List.mem_cons.mp q with rfl | q
      · exact h2
      rcases List.mem_cons.mp q with rfl | q
      · exact h3
      rcases List.mem_cons.mp q with rfl | q
      · exact h4
      · exact absurd q List.not_mem_nil
    · rcases List.mem_cons.mp q with rfl | q
      · exact h5
      · exact q
  exact ⟨List.mem_cons_of_mem _ hm, hm⟩
theorem gS {c1 c2 : Cond} {own : String} {idx : Nat} {y : MethodName} (h1 : (Cond.methodLink own idx y) ∈ TB) (h2 : (Cond.static y) ∈ TB) (h3 : (Cond.initialized y.cls) ∈ TB) (h5 : c2 ∈ TB) : GoodIn (c1 :: TB) (va_wsS own idx y (c2 :: TB)) := by
  refine g_of (fun w hw => ?_)
  have hm : w ∈ TB := by
    rcases List.mem_append.mp hw with q | q
    · rcases List.mem_cons.mp q with rfl | q
      · exact h1
      rcases List.mem_cons.mp q with rfl | q
      · exact h2
      rcases List.mem_cons.mp q with rfl | q
      · exact h3
      · exact absurd q List.not_mem_nil
    · rcases List.mem_cons.mp q with rfl | q
      · exact h5
      · exact q
  exact ⟨List.mem_cons_of_mem _ hm, hm⟩
theorem gT {c1 : Cond} {big : List Cond} (h5 : c1 ∈ TB) (hb : ∀ w ∈ TB, w ∈ big) : GoodIn big (c1 :: TB) := g_of (fun w hw => by
  rcases List.mem_cons.mp hw with rfl | q
  · exact ⟨hb _ h5, h5⟩
  · exact ⟨hb _ q, q⟩)
theorem gLess {c1 : Cond} {ws : List Cond} (h : GoodIn (c1 :: TB) ws) (h1 : c1 ∈ TB) : GoodIn TB ws := fun w hw => ⟨by
  rcases List.mem_cons.mp (h w hw).1 with rfl | q
  · exact h1
  · exact q, (h w hw).2⟩
theorem iX0 : ∀ w ∈ u_ws RX0 TX0 7, w ∈ TB := by decide +kernel
theorem iX1 : ∀ w ∈ u_ws RX1 TX1 10, w ∈ TB := by decide +kernel
theorem htl {c1 : Cond} {args : Array Value} {s : State} (h : ∀ w ∈ c1 :: TB, w.before args s = true) : ∀ w ∈ TB, w.before args s = true := fun w hw => h w (List.mem_cons_of_mem _ hw)
abbrev wsX0_init : List Cond := .code yX0_init cX0_init 2 none :: TB
abbrev wsJ7_fill_d0a16 : List Cond := .code yJ7_fill_d0a16 cJ7_fill_d0a16 5 none :: TB
abbrev wsX0_put : List Cond := .code yX0_put cX0_put 6 (some .int) :: TB
abbrev wsX0_cellOf : List Cond := .code yX0_cellOf cX0_cellOf 4 (some .int) :: TB
abbrev wsX0_cellNotBelow : List Cond := .code yX0_cellNotBelow cX0_cellNotBelow 5 (some .int) :: TB
abbrev wsX0_seek : List Cond := .code yX0_seek cX0_seek 8 (some .int) :: TB
abbrev wsX0_borneBy : List Cond := .code yX0_borneBy cX0_borneBy 4 (some .long) :: TB
abbrev wsX0_depthOf : List Cond := .code yX0_depthOf cX0_depthOf 3 (some .int) :: TB
abbrev wsX0_segments : List Cond := .code yX0_segments cX0_segments 1 (some .int) :: TB
abbrev wsX0_windowCells : List Cond := .code yX0_windowCells cX0_windowCells 1 (some .int) :: TB
abbrev wsX0_greatestKey : List Cond := .code yX0_greatestKey cX0_greatestKey 4 (some .long) :: TB
abbrev wsX0_putNew : List Cond := .code yX0_putNew cX0_putNew 9 (some .boolean) :: TB
abbrev wsX0_heightWithRoom : List Cond := .code yX0_heightWithRoom cX0_heightWithRoom 3 (some .int) :: TB
abbrev wsX0_keysInWindow : List Cond := .code yX0_keysInWindow cX0_keysInWindow 3 (some .int) :: TB
abbrev wsX0_firstCell : List Cond := .code yX0_firstCell cX0_firstCell 2 (some .int) :: TB
abbrev wsX0_keysAmong : List Cond := .code yX0_keysAmong cX0_keysAmong 5 (some .int) :: TB
abbrev wsX0_mostKeys : List Cond := .code yX0_mostKeys cX0_mostKeys 2 (some .int) :: TB
abbrev wsX0_cells : List Cond := .code yX0_cells cX0_cells 1 (some .int) :: TB
abbrev wsX0_pack : List Cond := .code yX0_pack cX0_pack 5 (some .int) :: TB
abbrev wsX0_shift : List Cond := .code yX0_shift cX0_shift 3 none :: TB
abbrev wsX0_clear : List Cond := .code yX0_clear cX0_clear 2 none :: TB
abbrev wsX0_insertPacked : List Cond := .code yX0_insertPacked cX0_insertPacked 8 none :: TB
abbrev wsX0_spreadPacked : List Cond := .code yX0_spreadPacked cX0_spreadPacked 5 none :: TB
abbrev wsX0_fill : List Cond := .code yX0_fill cX0_fill 9 (some .int) :: TB
abbrev wsX0_remove : List Cond := .code yX0_remove cX0_remove 4 (some .boolean) :: TB
abbrev wsX0_takeOut : List Cond := .code yX0_takeOut cX0_takeOut 5 none :: TB
abbrev wsX0_heightWithEnough : List Cond := .code yX0_heightWithEnough cX0_heightWithEnough 3 (some .int) :: TB
abbrev wsX0_fewestKeys : List Cond := .code yX0_fewestKeys cX0_fewestKeys 3 (some .int) :: TB
abbrev wsX0_halve : List Cond := .code yX0_halve cX0_halve 2 none :: TB
abbrev wsX0_drop : List Cond := .code yX0_drop cX0_drop 6 (some .int) :: TB
abbrev wsX0_has : List Cond := .code yX0_has cX0_has 3 (some .boolean) :: TB
abbrev wsX0_get : List Cond := .code yX0_get cX0_get 4 (some .long) :: TB
abbrev wsX0_floor : List Cond := .code yX0_floor cX0_floor 4 (some .long) :: TB
abbrev wsX0_ceiling : List Cond := .code yX0_ceiling cX0_ceiling 4 (some .long) :: TB
abbrev wsX0_select : List Cond := .code yX0_select cX0_select 4 (some .long) :: TB
abbrev wsX0_count : List Cond := .code yX0_count cX0_count 7 (some .int) :: TB
abbrev wsX0_isHeldBetween : List Cond := .code yX0_isHeldBetween cX0_isHeldBetween 8 (some .boolean) :: TB
abbrev wsX0_sum : List Cond := .code yX0_sum cX0_sum 8 (some .long) :: TB
abbrev wsX0_size : List Cond := .code yX0_size cX0_size 1 (some .int) :: TB
abbrev wsX0_cellKey : List Cond := .code yX0_cellKey cX0_cellKey 2 (some .long) :: TB
abbrev wsX0_place : List Cond := .code yX0_place cX0_place 2 (some .int) :: TB
abbrev wsX0_placeInTree : List Cond := .code yX0_placeInTree cX0_placeInTree 7 (some .int) :: TB
abbrev wsX0_nodesOfTree : List Cond := .code yX0_nodesOfTree cX0_nodesOfTree 1 (some .int) :: TB
abbrev wsX0_borne : List Cond := .code yX0_borne cX0_borne 3 (some .long) :: TB
abbrev wsX0_touched : List Cond := .code yX0_touched cX0_touched 8 (some .int) :: TB
abbrev wsX0_noteBlock : List Cond := .code yX0_noteBlock cX0_noteBlock 4 (some .int) :: TB
abbrev wsX0_window : List Cond := .code yX0_window cX0_window 1 (some .int) :: TB
abbrev wsX0_moved : List Cond := .code yX0_moved cX0_moved 1 (some .long) :: TB
abbrev wsL_cell : List Cond := .code yL_cell cL_cell 2 (some .int) :: TB
abbrev wsX1_init : List Cond := .code yX1_init cX1_init 2 none :: TB
abbrev wsX1_place : List Cond := .code yX1_place cX1_place 2 (some .int) :: TB
abbrev wsX1_isNode : List Cond := .code yX1_isNode cX1_isNode 2 (some .boolean) :: TB
abbrev wsX1_segments : List Cond := .code yX1_segments cX1_segments 1 (some .int) :: TB
abbrev wsX1_placeOf : List Cond := .code yX1_placeOf cX1_placeOf 9 (some .int) :: TB
abbrev wsX1_levels : List Cond := .code yX1_levels cX1_levels 3 (some .int) :: TB
abbrev wsX1_levelOf : List Cond := .code yX1_levelOf cX1_levelOf 3 (some .int) :: TB
abbrev wsX1_borne : List Cond := .code yX1_borne cX1_borne 5 (some .long) :: TB
abbrev wsX1_bears : List Cond := .code yX1_bears cX1_bears 4 (some .long) :: TB
abbrev wsX1_greatest : List Cond := .code yX1_greatest cX1_greatest 6 (some .long) :: TB
abbrev wsX1_touched : List Cond := .code yX1_touched cX1_touched 10 (some .int) :: TB
abbrev wsX1_seek : List Cond := .code yX1_seek cX1_seek 4 (some .int) :: TB
abbrev wsX1_step : List Cond := .code yX1_step cX1_step 6 (some .int) :: TB
abbrev wsX1_put : List Cond := .code yX1_put cX1_put 10 (some .int) :: TB
abbrev wsX1_cellOf : List Cond := .code yX1_cellOf cX1_cellOf 5 (some .int) :: TB
abbrev wsX1_firstOf : List Cond := .code yX1_firstOf cX1_firstOf 2 (some .int) :: TB
abbrev wsX1_held : List Cond := .code yX1_held cX1_held 5 (some .int) :: TB
abbrev wsX1_most : List Cond := .code yX1_most cX1_most 3 (some .int) :: TB
abbrev wsX1_lift : List Cond := .code yX1_lift cX1_lift 4 none :: TB
abbrev wsX1_join : List Cond := .code yX1_join cX1_join 6 none :: TB
abbrev wsX1_spread : List Cond := .code yX1_spread cX1_spread 6 none :: TB
abbrev wsX1_fill : List Cond := .code yX1_fill cX1_fill 11 (some .int) :: TB
abbrev wsX1_remove : List Cond := .code yX1_remove cX1_remove 7 (some .boolean) :: TB
abbrev wsX1_fewest : List Cond := .code yX1_fewest cX1_fewest 3 (some .int) :: TB
abbrev wsX1_drop : List Cond := .code yX1_drop cX1_drop 9 (some .int) :: TB
abbrev wsX1_ceiling : List Cond := .code yX1_ceiling cX1_ceiling 6 (some .long) :: TB
abbrev wsX1_has : List Cond := .code yX1_has cX1_has 3 (some .boolean) :: TB
abbrev wsX1_get : List Cond := .code yX1_get cX1_get 4 (some .long) :: TB
abbrev wsX1_floor : List Cond := .code yX1_floor cX1_floor 6 (some .long) :: TB
abbrev wsX1_select : List Cond := .code yX1_select cX1_select 6 (some .long) :: TB
abbrev wsX1_count : List Cond := .code yX1_count cX1_count 7 (some .int) :: TB
abbrev wsX1_sum : List Cond := .code yX1_sum cX1_sum 8 (some .long) :: TB
abbrev wsX1_size : List Cond := .code yX1_size cX1_size 1 (some .int) :: TB
abbrev wsX1_cells : List Cond := .code yX1_cells cX1_cells 1 (some .int) :: TB
abbrev wsX1_cellKey : List Cond := .code yX1_cellKey cX1_cellKey 2 (some .long) :: TB
abbrev wsX1_window : List Cond := .code yX1_window cX1_window 1 (some .int) :: TB
abbrev wsX1_moved : List Cond := .code yX1_moved cX1_moved 1 (some .long) :: TB
theorem gX0_put_X0_cellOf : GoodIn wsX0_put (wsV RX0 42 RX0 yX0_cellOf wsX0_cellOf) := gV tml_X0_42 tim_yX0_cellOf tse_yX0_cellOf tin_X0 tco_yX0_cellOf
theorem gX0_put_X0_putNew : GoodIn wsX0_put (wsV RX0 46 RX0 yX0_putNew wsX0_putNew) := gV tml_X0_46 tim_yX0_putNew tse_yX0_putNew tin_X0 tco_yX0_putNew
theorem gX0_fill_X0_put : GoodIn wsX0_fill (wsV RX0 50 RX0 yX0_put wsX0_put) := gV tml_X0_50 tim_yX0_put tse_yX0_put tin_X0 tco_yX0_put
theorem gX0_remove_X0_cellOf : GoodIn wsX0_remove (wsV RX0 42 RX0 yX0_cellOf wsX0_cellOf) := gV tml_X0_42 tim_yX0_cellOf tse_yX0_cellOf tin_X0 tco_yX0_cellOf
theorem gX0_remove_X0_takeOut : GoodIn wsX0_remove (wsV RX0 54 RX0 yX0_takeOut wsX0_takeOut) := gV tml_X0_54 tim_yX0_takeOut tse_yX0_takeOut tin_X0 tco_yX0_takeOut
theorem gX0_drop_X0_cellNotBelow : GoodIn wsX0_drop (wsV RX0 58 RX0 yX0_cellNotBelow wsX0_cellNotBelow) := gV tml_X0_58 tim_yX0_cellNotBelow tse_yX0_cellNotBelow tin_X0 tco_yX0_cellNotBelow
theorem gX0_drop_X0_takeOut : GoodIn wsX0_drop (wsV RX0 54 RX0 yX0_takeOut wsX0_takeOut) := gV tml_X0_54 tim_yX0_takeOut tse_yX0_takeOut tin_X0 tco_yX0_takeOut
theorem gX0_has_X0_cellOf : GoodIn wsX0_has (wsV RX0 42 RX0 yX0_cellOf wsX0_cellOf) := gV tml_X0_42 tim_yX0_cellOf tse_yX0_cellOf tin_X0 tco_yX0_cellOf
theorem gX0_get_X0_cellOf : GoodIn wsX0_get (wsV RX0 42 RX0 yX0_cellOf wsX0_cellOf) := gV tml_X0_42 tim_yX0_cellOf tse_yX0_cellOf tin_X0 tco_yX0_cellOf
theorem gX0_floor_X0_cells : GoodIn wsX0_floor (wsV RX0 61 RX0 yX0_cells wsX0_cells) := gV tml_X0_61 tim_yX0_cells tse_yX0_cells tin_X0 tco_yX0_cells
theorem gX0_ceiling_X0_cellNotBelow : GoodIn wsX0_ceiling (wsV RX0 58 RX0 yX0_cellNotBelow wsX0_cellNotBelow) := gV tml_X0_58 tim_yX0_cellNotBelow tse_yX0_cellNotBelow tin_X0 tco_yX0_cellNotBelow
theorem gX0_select_X0_cells : GoodIn wsX0_select (wsV RX0 61 RX0 yX0_cells wsX0_cells) := gV tml_X0_61 tim_yX0_cells tse_yX0_cells tin_X0 tco_yX0_cells
theorem gX0_count_X0_cells : GoodIn wsX0_count (wsV RX0 61 RX0 yX0_cells wsX0_cells) := gV tml_X0_61 tim_yX0_cells tse_yX0_cells tin_X0 tco_yX0_cells
theorem gX0_count_X0_isHeldBetween : GoodIn wsX0_count (wsV RX0 65 RX0 yX0_isHeldBetween wsX0_isHeldBetween) := gV tml_X0_65 tim_yX0_isHeldBetween tse_yX0_isHeldBetween tin_X0 tco_yX0_isHeldBetween
theorem gX0_sum_X0_cells : GoodIn wsX0_sum (wsV RX0 61 RX0 yX0_cells wsX0_cells) := gV tml_X0_61 tim_yX0_cells tse_yX0_cells tin_X0 tco_yX0_cells
theorem gX0_sum_X0_isHeldBetween : GoodIn wsX0_sum (wsV RX0 65 RX0 yX0_isHeldBetween wsX0_isHeldBetween) := gV tml_X0_65 tim_yX0_isHeldBetween tse_yX0_isHeldBetween tin_X0 tco_yX0_isHeldBetween
theorem gX0_size_X0_cells : GoodIn wsX0_size (wsV RX0 61 RX0 yX0_cells wsX0_cells) := gV tml_X0_61 tim_yX0_cells tse_yX0_cells tin_X0 tco_yX0_cells
theorem gX0_size_X0_keysAmong : GoodIn wsX0_size (wsV RX0 69 RX0 yX0_keysAmong wsX0_keysAmong) := gV tml_X0_69 tim_yX0_keysAmong tse_yX0_keysAmong tin_X0 tco_yX0_keysAmong
theorem gX0_cells_X0_windowCells : GoodIn wsX0_cells (va_wsS RX0 73 yX0_windowCells wsX0_windowCells) := gS tml_X0_73 tst_yX0_windowCells tin_X0 tco_yX0_windowCells
theorem gX0_cellKey_X0_cells : GoodIn wsX0_cellKey (wsV RX0 61 RX0 yX0_cells wsX0_cells) := gV tml_X0_61 tim_yX0_cells tse_yX0_cells tin_X0 tco_yX0_cells
theorem gX0_place_X0_segments : GoodIn wsX0_place (wsV RX0 77 RX0 yX0_segments wsX0_segments) := gV tml_X0_77 tim_yX0_segments tse_yX0_segments tin_X0 tco_yX0_segments
theorem gX0_place_X0_placeInTree : GoodIn wsX0_place (va_wsS RX0 80 yX0_placeInTree wsX0_placeInTree) := gS tml_X0_80 tst_yX0_placeInTree tin_X0 tco_yX0_placeInTree
theorem gX0_borne_X0_segments : GoodIn wsX0_borne (wsV RX0 77 RX0 yX0_segments wsX0_segments) := gV tml_X0_77 tim_yX0_segments tse_yX0_segments tin_X0 tco_yX0_segments
theorem gX0_borne_X0_placeInTree : GoodIn wsX0_borne (va_wsS RX0 80 yX0_placeInTree wsX0_placeInTree) := gS tml_X0_80 tst_yX0_placeInTree tin_X0 tco_yX0_placeInTree
theorem gX0_borne_X0_borneBy : GoodIn wsX0_borne (wsV RX0 83 RX0 yX0_borneBy wsX0_borneBy) := gV tml_X0_83 tim_yX0_borneBy tse_yX0_borneBy tin_X0 tco_yX0_borneBy
theorem gX0_touched_X0_seek : GoodIn wsX0_touched (wsV RX0 87 RX0 yX0_seek wsX0_seek) := gV tml_X0_87 tim_yX0_seek tse_yX0_seek tin_X0 tco_yX0_seek
theorem gX0_touched_X0_segments : GoodIn wsX0_touched (wsV RX0 77 RX0 yX0_segments wsX0_segments) := gV tml_X0_77 tim_yX0_segments tse_yX0_segments tin_X0 tco_yX0_segments
theorem gX0_touched_X0_placeInTree : GoodIn wsX0_touched (va_wsS RX0 80 yX0_placeInTree wsX0_placeInTree) := gS tml_X0_80 tst_yX0_placeInTree tin_X0 tco_yX0_placeInTree
theorem gX0_touched_X0_noteBlock : GoodIn wsX0_touched (wsV RX0 90 RX0 yX0_noteBlock wsX0_noteBlock) := gV tml_X0_90 tim_yX0_noteBlock tse_yX0_noteBlock tin_X0 tco_yX0_noteBlock
theorem gX0_seek_X0_borneBy : GoodIn wsX0_seek (wsV RX0 83 RX0 yX0_borneBy wsX0_borneBy) := gV tml_X0_83 tim_yX0_borneBy tse_yX0_borneBy tin_X0 tco_yX0_borneBy
theorem gX0_seek_X0_segments : GoodIn wsX0_seek (wsV RX0 77 RX0 yX0_segments wsX0_segments) := gV tml_X0_77 tim_yX0_segments tse_yX0_segments tin_X0 tco_yX0_segments
theorem gX0_borneBy_X0_depthOf : GoodIn wsX0_borneBy (va_wsS RX0 93 yX0_depthOf wsX0_depthOf) := gS tml_X0_93 tst_yX0_depthOf tin_X0 tco_yX0_depthOf
theorem gX0_borneBy_X0_segments : GoodIn wsX0_borneBy (wsV RX0 77 RX0 yX0_segments wsX0_segments) := gV tml_X0_77 tim_yX0_segments tse_yX0_segments tin_X0 tco_yX0_segments
theorem gX0_borneBy_X0_windowCells : GoodIn wsX0_borneBy (va_wsS RX0 73 yX0_windowCells wsX0_windowCells) := gS tml_X0_73 tst_yX0_windowCells tin_X0 tco_yX0_windowCells
theorem gX0_borneBy_X0_greatestKey : GoodIn wsX0_borneBy (wsV RX0 96 RX0 yX0_greatestKey wsX0_greatestKey) := gV tml_X0_96 tim_yX0_greatestKey tse_yX0_greatestKey tin_X0 tco_yX0_greatestKey
theorem gX0_placeInTree_X0_depthOf : GoodIn wsX0_placeInTree (va_wsS RX0 93 yX0_depthOf wsX0_depthOf) := gS tml_X0_93 tst_yX0_depthOf tin_X0 tco_yX0_depthOf
theorem gX0_placeInTree_X0_placeInTree : GoodIn wsX0_placeInTree (va_wsS RX0 80 yX0_placeInTree wsX0_placeInTree) := gS tml_X0_80 tst_yX0_placeInTree tin_X0 tco_yX0_placeInTree
theorem gX0_placeInTree_X0_nodesOfTree : GoodIn wsX0_placeInTree (va_wsS RX0 100 yX0_nodesOfTree wsX0_nodesOfTree) := gS tml_X0_100 tst_yX0_nodesOfTree tin_X0 tco_yX0_nodesOfTree
theorem gX0_cellNotBelow_X0_seek : GoodIn wsX0_cellNotBelow (wsV RX0 87 RX0 yX0_seek wsX0_seek) := gV tml_X0_87 tim_yX0_seek tse_yX0_seek tin_X0 tco_yX0_seek
theorem gX0_cellOf_X0_cellNotBelow : GoodIn wsX0_cellOf (wsV RX0 58 RX0 yX0_cellNotBelow wsX0_cellNotBelow) := gV tml_X0_58 tim_yX0_cellNotBelow tse_yX0_cellNotBelow tin_X0 tco_yX0_cellNotBelow
theorem gX0_firstCell_X0_windowCells : GoodIn wsX0_firstCell (va_wsS RX0 73 yX0_windowCells wsX0_windowCells) := gS tml_X0_73 tst_yX0_windowCells tin_X0 tco_yX0_windowCells
theorem gX0_keysInWindow_X0_firstCell : GoodIn wsX0_keysInWindow (va_wsS RX0 103 yX0_firstCell wsX0_firstCell) := gS tml_X0_103 tst_yX0_firstCell tin_X0 tco_yX0_firstCell
theorem gX0_keysInWindow_X0_windowCells : GoodIn wsX0_keysInWindow (va_wsS RX0 73 yX0_windowCells wsX0_windowCells) := gS tml_X0_73 tst_yX0_windowCells tin_X0 tco_yX0_windowCells
theorem gX0_keysInWindow_X0_keysAmong : GoodIn wsX0_keysInWindow (wsV RX0 69 RX0 yX0_keysAmong wsX0_keysAmong) := gV tml_X0_69 tim_yX0_keysAmong tse_yX0_keysAmong tin_X0 tco_yX0_keysAmong
theorem gX0_mostKeys_X0_windowCells : GoodIn wsX0_mostKeys (va_wsS RX0 73 yX0_windowCells wsX0_windowCells) := gS tml_X0_73 tst_yX0_windowCells tin_X0 tco_yX0_windowCells
theorem gX0_fewestKeys_X0_windowCells : GoodIn wsX0_fewestKeys (va_wsS RX0 73 yX0_windowCells wsX0_windowCells) := gS tml_X0_73 tst_yX0_windowCells tin_X0 tco_yX0_windowCells
theorem gX0_heightWithRoom_X0_keysInWindow : GoodIn wsX0_heightWithRoom (wsV RX0 106 RX0 yX0_keysInWindow wsX0_keysInWindow) := gV tml_X0_106 tim_yX0_keysInWindow tse_yX0_keysInWindow tin_X0 tco_yX0_keysInWindow
theorem gX0_heightWithRoom_X0_mostKeys : GoodIn wsX0_heightWithRoom (wsV RX0 109 RX0 yX0_mostKeys wsX0_mostKeys) := gV tml_X0_109 tim_yX0_mostKeys tse_yX0_mostKeys tin_X0 tco_yX0_mostKeys
theorem gX0_heightWithEnough_X0_keysInWindow : GoodIn wsX0_heightWithEnough (wsV RX0 106 RX0 yX0_keysInWindow wsX0_keysInWindow) := gV tml_X0_106 tim_yX0_keysInWindow tse_yX0_keysInWindow tin_X0 tco_yX0_keysInWindow
theorem gX0_heightWithEnough_X0_fewestKeys : GoodIn wsX0_heightWithEnough (wsV RX0 112 RX0 yX0_fewestKeys wsX0_fewestKeys) := gV tml_X0_112 tim_yX0_fewestKeys tse_yX0_fewestKeys tin_X0 tco_yX0_fewestKeys
theorem gX0_putNew_X0_seek : GoodIn wsX0_putNew (wsV RX0 87 RX0 yX0_seek wsX0_seek) := gV tml_X0_87 tim_yX0_seek tse_yX0_seek tin_X0 tco_yX0_seek
theorem gX0_putNew_X0_heightWithRoom : GoodIn wsX0_putNew (wsV RX0 115 RX0 yX0_heightWithRoom wsX0_heightWithRoom) := gV tml_X0_115 tim_yX0_heightWithRoom tse_yX0_heightWithRoom tin_X0 tco_yX0_heightWithRoom
theorem gX0_putNew_X0_cells : GoodIn wsX0_putNew (wsV RX0 61 RX0 yX0_cells wsX0_cells) := gV tml_X0_61 tim_yX0_cells tse_yX0_cells tin_X0 tco_yX0_cells
theorem gX0_putNew_X0_firstCell : GoodIn wsX0_putNew (va_wsS RX0 103 yX0_firstCell wsX0_firstCell) := gS tml_X0_103 tst_yX0_firstCell tin_X0 tco_yX0_firstCell
theorem gX0_putNew_X0_windowCells : GoodIn wsX0_putNew (va_wsS RX0 73 yX0_windowCells wsX0_windowCells) := gS tml_X0_73 tst_yX0_windowCells tin_X0 tco_yX0_windowCells
theorem gX0_putNew_X0_pack : GoodIn wsX0_putNew (wsV RX0 118 RX0 yX0_pack wsX0_pack) := gV tml_X0_118 tim_yX0_pack tse_yX0_pack tin_X0 tco_yX0_pack
theorem gX0_putNew_X0_insertPacked : GoodIn wsX0_putNew (wsV RX0 121 RX0 yX0_insertPacked wsX0_insertPacked) := gV tml_X0_121 tim_yX0_insertPacked tse_yX0_insertPacked tin_X0 tco_yX0_insertPacked
theorem gX0_putNew_X0_spreadPacked : GoodIn wsX0_putNew (wsV RX0 125 RX0 yX0_spreadPacked wsX0_spreadPacked) := gV tml_X0_125 tim_yX0_spreadPacked tse_yX0_spreadPacked tin_X0 tco_yX0_spreadPacked
theorem gX0_takeOut_X0_clear : GoodIn wsX0_takeOut (wsV RX0 129 RX0 yX0_clear wsX0_clear) := gV tml_X0_129 tim_yX0_clear tse_yX0_clear tin_X0 tco_yX0_clear
theorem gX0_takeOut_X0_heightWithEnough : GoodIn wsX0_takeOut (wsV RX0 132 RX0 yX0_heightWithEnough wsX0_heightWithEnough) := gV tml_X0_132 tim_yX0_heightWithEnough tse_yX0_heightWithEnough tin_X0 tco_yX0_heightWithEnough
theorem gX0_takeOut_X0_firstCell : GoodIn wsX0_takeOut (va_wsS RX0 103 yX0_firstCell wsX0_firstCell) := gS tml_X0_103 tst_yX0_firstCell tin_X0 tco_yX0_firstCell
theorem gX0_takeOut_X0_windowCells : GoodIn wsX0_takeOut (va_wsS RX0 73 yX0_windowCells wsX0_windowCells) := gS tml_X0_73 tst_yX0_windowCells tin_X0 tco_yX0_windowCells
theorem gX0_takeOut_X0_pack : GoodIn wsX0_takeOut (wsV RX0 118 RX0 yX0_pack wsX0_pack) := gV tml_X0_118 tim_yX0_pack tse_yX0_pack tin_X0 tco_yX0_pack
theorem gX0_takeOut_X0_spreadPacked : GoodIn wsX0_takeOut (wsV RX0 125 RX0 yX0_spreadPacked wsX0_spreadPacked) := gV tml_X0_125 tim_yX0_spreadPacked tse_yX0_spreadPacked tin_X0 tco_yX0_spreadPacked
theorem gX0_takeOut_X0_halve : GoodIn wsX0_takeOut (wsV RX0 135 RX0 yX0_halve wsX0_halve) := gV tml_X0_135 tim_yX0_halve tse_yX0_halve tin_X0 tco_yX0_halve
theorem gX0_halve_X0_cells : GoodIn wsX0_halve (wsV RX0 61 RX0 yX0_cells wsX0_cells) := gV tml_X0_61 tim_yX0_cells tse_yX0_cells tin_X0 tco_yX0_cells
theorem gX0_halve_X0_pack : GoodIn wsX0_halve (wsV RX0 118 RX0 yX0_pack wsX0_pack) := gV tml_X0_118 tim_yX0_pack tse_yX0_pack tin_X0 tco_yX0_pack
theorem gX0_halve_X0_spreadPacked : GoodIn wsX0_halve (wsV RX0 125 RX0 yX0_spreadPacked wsX0_spreadPacked) := gV tml_X0_125 tim_yX0_spreadPacked tse_yX0_spreadPacked tin_X0 tco_yX0_spreadPacked
theorem gX0_pack_X0_shift : GoodIn wsX0_pack (wsV RX0 138 RX0 yX0_shift wsX0_shift) := gV tml_X0_138 tim_yX0_shift tse_yX0_shift tin_X0 tco_yX0_shift
theorem gX0_insertPacked_X0_shift : GoodIn wsX0_insertPacked (wsV RX0 138 RX0 yX0_shift wsX0_shift) := gV tml_X0_138 tim_yX0_shift tse_yX0_shift tin_X0 tco_yX0_shift
theorem gX0_spreadPacked_X0_windowCells : GoodIn wsX0_spreadPacked (va_wsS RX0 73 yX0_windowCells wsX0_windowCells) := gS tml_X0_73 tst_yX0_windowCells tin_X0 tco_yX0_windowCells
theorem gX0_spreadPacked_X0_shift : GoodIn wsX0_spreadPacked (wsV RX0 138 RX0 yX0_shift wsX0_shift) := gV tml_X0_138 tim_yX0_shift tse_yX0_shift tin_X0 tco_yX0_shift
theorem gX0_shift_X0_clear : GoodIn wsX0_shift (wsV RX0 129 RX0 yX0_clear wsX0_clear) := gV tml_X0_129 tim_yX0_clear tse_yX0_clear tin_X0 tco_yX0_clear
theorem gX1_levels_X1_segments : GoodIn wsX1_levels (wsV RX1 36 RX1 yX1_segments wsX1_segments) := gV tml_X1_36 tim_yX1_segments tse_yX1_segments tin_X1 tco_yX1_segments
theorem gX1_bears_X1_segments : GoodIn wsX1_bears (wsV RX1 36 RX1 yX1_segments wsX1_segments) := gV tml_X1_36 tim_yX1_segments tse_yX1_segments tin_X1 tco_yX1_segments
theorem gX1_bears_X1_levelOf : GoodIn wsX1_bears (va_wsS RX1 42 yX1_levelOf wsX1_levelOf) := gS tml_X1_42 tst_yX1_levelOf tin_X1 tco_yX1_levelOf
theorem gX1_bears_X1_greatest : GoodIn wsX1_bears (wsV RX1 46 RX1 yX1_greatest wsX1_greatest) := gV tml_X1_46 tim_yX1_greatest tse_yX1_greatest tin_X1 tco_yX1_greatest
theorem gX1_step_X1_bears : GoodIn wsX1_step (wsV RX1 50 RX1 yX1_bears wsX1_bears) := gV tml_X1_50 tim_yX1_bears tse_yX1_bears tin_X1 tco_yX1_bears
theorem gX1_seek_X1_segments : GoodIn wsX1_seek (wsV RX1 36 RX1 yX1_segments wsX1_segments) := gV tml_X1_36 tim_yX1_segments tse_yX1_segments tin_X1 tco_yX1_segments
theorem gX1_seek_X1_step : GoodIn wsX1_seek (wsV RX1 54 RX1 yX1_step wsX1_step) := gV tml_X1_54 tim_yX1_step tse_yX1_step tin_X1 tco_yX1_step
theorem gX1_placeOf_X1_levels : GoodIn wsX1_placeOf (wsV RX1 58 RX1 yX1_levels wsX1_levels) := gV tml_X1_58 tim_yX1_levels tse_yX1_levels tin_X1 tco_yX1_levels
theorem gX1_placeOf_X1_levelOf : GoodIn wsX1_placeOf (va_wsS RX1 42 yX1_levelOf wsX1_levelOf) := gS tml_X1_42 tst_yX1_levelOf tin_X1 tco_yX1_levelOf
theorem gX1_isNode_X1_segments : GoodIn wsX1_isNode (wsV RX1 36 RX1 yX1_segments wsX1_segments) := gV tml_X1_36 tim_yX1_segments tse_yX1_segments tin_X1 tco_yX1_segments
theorem gX1_place_X1_isNode : GoodIn wsX1_place (wsV RX1 61 RX1 yX1_isNode wsX1_isNode) := gV tml_X1_61 tim_yX1_isNode tse_yX1_isNode tin_X1 tco_yX1_isNode
theorem gX1_place_X1_placeOf : GoodIn wsX1_place (wsV RX1 65 RX1 yX1_placeOf wsX1_placeOf) := gV tml_X1_65 tim_yX1_placeOf tse_yX1_placeOf tin_X1 tco_yX1_placeOf
theorem gX1_borne_X1_segments : GoodIn wsX1_borne (wsV RX1 36 RX1 yX1_segments wsX1_segments) := gV tml_X1_36 tim_yX1_segments tse_yX1_segments tin_X1 tco_yX1_segments
theorem gX1_borne_X1_placeOf : GoodIn wsX1_borne (wsV RX1 65 RX1 yX1_placeOf wsX1_placeOf) := gV tml_X1_65 tim_yX1_placeOf tse_yX1_placeOf tin_X1 tco_yX1_placeOf
theorem gX1_borne_X1_bears : GoodIn wsX1_borne (wsV RX1 50 RX1 yX1_bears wsX1_bears) := gV tml_X1_50 tim_yX1_bears tse_yX1_bears tin_X1 tco_yX1_bears
theorem gX1_touched_X1_segments : GoodIn wsX1_touched (wsV RX1 36 RX1 yX1_segments wsX1_segments) := gV tml_X1_36 tim_yX1_segments tse_yX1_segments tin_X1 tco_yX1_segments
theorem gX1_touched_X1_seek : GoodIn wsX1_touched (wsV RX1 68 RX1 yX1_seek wsX1_seek) := gV tml_X1_68 tim_yX1_seek tse_yX1_seek tin_X1 tco_yX1_seek
theorem gX1_touched_X1_placeOf : GoodIn wsX1_touched (wsV RX1 65 RX1 yX1_placeOf wsX1_placeOf) := gV tml_X1_65 tim_yX1_placeOf tse_yX1_placeOf tin_X1 tco_yX1_placeOf
theorem gX1_touched_X1_step : GoodIn wsX1_touched (wsV RX1 54 RX1 yX1_step wsX1_step) := gV tml_X1_54 tim_yX1_step tse_yX1_step tin_X1 tco_yX1_step
theorem gX1_most_X1_levels : GoodIn wsX1_most (wsV RX1 58 RX1 yX1_levels wsX1_levels) := gV tml_X1_58 tim_yX1_levels tse_yX1_levels tin_X1 tco_yX1_levels
theorem gX1_fewest_X1_levels : GoodIn wsX1_fewest (wsV RX1 58 RX1 yX1_levels wsX1_levels) := gV tml_X1_58 tim_yX1_levels tse_yX1_levels tin_X1 tco_yX1_levels
theorem gX1_put_X1_cellOf : GoodIn wsX1_put (wsV RX1 79 RX1 yX1_cellOf wsX1_cellOf) := gV tml_X1_79 tim_yX1_cellOf tse_yX1_cellOf tin_X1 tco_yX1_cellOf
theorem gX1_put_X1_seek : GoodIn wsX1_put (wsV RX1 68 RX1 yX1_seek wsX1_seek) := gV tml_X1_68 tim_yX1_seek tse_yX1_seek tin_X1 tco_yX1_seek
theorem gX1_put_X1_levels : GoodIn wsX1_put (wsV RX1 58 RX1 yX1_levels wsX1_levels) := gV tml_X1_58 tim_yX1_levels tse_yX1_levels tin_X1 tco_yX1_levels
theorem gX1_put_X1_firstOf : GoodIn wsX1_put (va_wsS RX1 82 yX1_firstOf wsX1_firstOf) := gS tml_X1_82 tst_yX1_firstOf tin_X1 tco_yX1_firstOf
theorem gX1_put_X1_held : GoodIn wsX1_put (wsV RX1 86 RX1 yX1_held wsX1_held) := gV tml_X1_86 tim_yX1_held tse_yX1_held tin_X1 tco_yX1_held
theorem gX1_put_X1_most : GoodIn wsX1_put (wsV RX1 89 RX1 yX1_most wsX1_most) := gV tml_X1_89 tim_yX1_most tse_yX1_most tin_X1 tco_yX1_most
theorem gX1_put_X1_lift : GoodIn wsX1_put (wsV RX1 92 RX1 yX1_lift wsX1_lift) := gV tml_X1_92 tim_yX1_lift tse_yX1_lift tin_X1 tco_yX1_lift
theorem gX1_put_X1_join : GoodIn wsX1_put (wsV RX1 96 RX1 yX1_join wsX1_join) := gV tml_X1_96 tim_yX1_join tse_yX1_join tin_X1 tco_yX1_join
theorem gX1_put_X1_spread : GoodIn wsX1_put (wsV RX1 100 RX1 yX1_spread wsX1_spread) := gV tml_X1_100 tim_yX1_spread tse_yX1_spread tin_X1 tco_yX1_spread
theorem gX1_fill_X1_put : GoodIn wsX1_fill (wsV RX1 103 RX1 yX1_put wsX1_put) := gV tml_X1_103 tim_yX1_put tse_yX1_put tin_X1 tco_yX1_put
theorem gX1_remove_X1_cellOf : GoodIn wsX1_remove (wsV RX1 79 RX1 yX1_cellOf wsX1_cellOf) := gV tml_X1_79 tim_yX1_cellOf tse_yX1_cellOf tin_X1 tco_yX1_cellOf
theorem gX1_remove_X1_levels : GoodIn wsX1_remove (wsV RX1 58 RX1 yX1_levels wsX1_levels) := gV tml_X1_58 tim_yX1_levels tse_yX1_levels tin_X1 tco_yX1_levels
theorem gX1_remove_X1_firstOf : GoodIn wsX1_remove (va_wsS RX1 82 yX1_firstOf wsX1_firstOf) := gS tml_X1_82 tst_yX1_firstOf tin_X1 tco_yX1_firstOf
theorem gX1_remove_X1_held : GoodIn wsX1_remove (wsV RX1 86 RX1 yX1_held wsX1_held) := gV tml_X1_86 tim_yX1_held tse_yX1_held tin_X1 tco_yX1_held
theorem gX1_remove_X1_fewest : GoodIn wsX1_remove (wsV RX1 107 RX1 yX1_fewest wsX1_fewest) := gV tml_X1_107 tim_yX1_fewest tse_yX1_fewest tin_X1 tco_yX1_fewest
theorem gX1_remove_X1_lift : GoodIn wsX1_remove (wsV RX1 92 RX1 yX1_lift wsX1_lift) := gV tml_X1_92 tim_yX1_lift tse_yX1_lift tin_X1 tco_yX1_lift
theorem gX1_remove_X1_spread : GoodIn wsX1_remove (wsV RX1 100 RX1 yX1_spread wsX1_spread) := gV tml_X1_100 tim_yX1_spread tse_yX1_spread tin_X1 tco_yX1_spread
theorem gX1_drop_X1_ceiling : GoodIn wsX1_drop (wsV RX1 110 RX1 yX1_ceiling wsX1_ceiling) := gV tml_X1_110 tim_yX1_ceiling tse_yX1_ceiling tin_X1 tco_yX1_ceiling
theorem gX1_drop_X1_remove : GoodIn wsX1_drop (wsV RX1 114 RX1 yX1_remove wsX1_remove) := gV tml_X1_114 tim_yX1_remove tse_yX1_remove tin_X1 tco_yX1_remove
theorem gX1_has_X1_cellOf : GoodIn wsX1_has (wsV RX1 79 RX1 yX1_cellOf wsX1_cellOf) := gV tml_X1_79 tim_yX1_cellOf tse_yX1_cellOf tin_X1 tco_yX1_cellOf
theorem gX1_get_X1_cellOf : GoodIn wsX1_get (wsV RX1 79 RX1 yX1_cellOf wsX1_cellOf) := gV tml_X1_79 tim_yX1_cellOf tse_yX1_cellOf tin_X1 tco_yX1_cellOf
theorem gX1_size_X1_held : GoodIn wsX1_size (wsV RX1 86 RX1 yX1_held wsX1_held) := gV tml_X1_86 tim_yX1_held tse_yX1_held tin_X1 tco_yX1_held
theorem gX0_init_J7_fill : GoodIn wsX0_init (va_wsS RX0 15 yJ7_fill_d0a16 wsJ7_fill_d0a16) := gS tml_X0_15 tst_yJ7_fill_d0a16 tin_J7 tco_yJ7_fill_d0a16
theorem gL_law_X0_put : GoodIn TB (wsV RL 23 RX0 yX0_put wsX0_put) := gLess (gV (c1 := .code yX0_put cX0_put 6 (some .int)) tml_L_23 tim_yX0_put tse_yX0_put tin_X0 tco_yX0_put) tco_yX0_put
theorem gL_law_X0_fill : GoodIn TB (wsV RL 28 RX0 yX0_fill wsX0_fill) := gLess (gV (c1 := .code yX0_fill cX0_fill 9 (some .int)) tml_L_28 tim_yX0_fill tse_yX0_fill tin_X0 tco_yX0_fill) tco_yX0_fill
theorem gL_law_X0_remove : GoodIn TB (wsV RL 33 RX0 yX0_remove wsX0_remove) := gLess (gV (c1 := .code yX0_remove cX0_remove 4 (some .boolean)) tml_L_33 tim_yX0_remove tse_yX0_remove tin_X0 tco_yX0_remove) tco_yX0_remove
theorem gL_law_X0_drop : GoodIn TB (wsV RL 38 RX0 yX0_drop wsX0_drop) := gLess (gV (c1 := .code yX0_drop cX0_drop 6 (some .int)) tml_L_38 tim_yX0_drop tse_yX0_drop tin_X0 tco_yX0_drop) tco_yX0_drop
theorem gL_law_X0_has : GoodIn TB (wsV RL 43 RX0 yX0_has wsX0_has) := gLess (gV (c1 := .code yX0_has cX0_has 3 (some .boolean)) tml_L_43 tim_yX0_has tse_yX0_has tin_X0 tco_yX0_has) tco_yX0_has
theorem gL_law_X0_get : GoodIn TB (wsV RL 47 RX0 yX0_get wsX0_get) := gLess (gV (c1 := .code yX0_get cX0_get 4 (some .long)) tml_L_47 tim_yX0_get tse_yX0_get tin_X0 tco_yX0_get) tco_yX0_get
theorem gL_law_X0_floor : GoodIn TB (wsV RL 52 RX0 yX0_floor wsX0_floor) := gLess (gV (c1 := .code yX0_floor cX0_floor 4 (some .long)) tml_L_52 tim_yX0_floor tse_yX0_floor tin_X0 tco_yX0_floor) tco_yX0_floor
theorem gL_law_X0_ceiling : GoodIn TB (wsV RL 56 RX0 yX0_ceiling wsX0_ceiling) := gLess (gV (c1 := .code yX0_ceiling cX0_ceiling 4 (some .long)) tml_L_56 tim_yX0_ceiling tse_yX0_ceiling tin_X0 tco_yX0_ceiling) tco_yX0_ceiling
theorem gL_law_X0_select : GoodIn TB (wsV RL 60 RX0 yX0_select wsX0_select) := gLess (gV (c1 := .code yX0_select cX0_select 4 (some .long)) tml_L_60 tim_yX0_select tse_yX0_select tin_X0 tco_yX0_select) tco_yX0_select
theorem gL_law_X0_count : GoodIn TB (wsV RL 65 RX0 yX0_count wsX0_count) := gLess (gV (c1 := .code yX0_count cX0_count 7 (some .int)) tml_L_65 tim_yX0_count tse_yX0_count tin_X0 tco_yX0_count) tco_yX0_count
theorem gL_law_X0_sum : GoodIn TB (wsV RL 69 RX0 yX0_sum wsX0_sum) := gLess (gV (c1 := .code yX0_sum cX0_sum 8 (some .long)) tml_L_69 tim_yX0_sum tse_yX0_sum tin_X0 tco_yX0_sum) tco_yX0_sum
theorem gL_law_X0_size : GoodIn TB (wsV RL 74 RX0 yX0_size wsX0_size) := gLess (gV (c1 := .code yX0_size cX0_size 1 (some .int)) tml_L_74 tim_yX0_size tse_yX0_size tin_X0 tco_yX0_size) tco_yX0_size
theorem gL_law_X0_cells : GoodIn TB (wsV RL 79 RX0 yX0_cells wsX0_cells) := gLess (gV (c1 := .code yX0_cells cX0_cells 1 (some .int)) tml_L_79 tim_yX0_cells tse_yX0_cells tin_X0 tco_yX0_cells) tco_yX0_cells
theorem gL_law_X0_cellKey : GoodIn TB (wsV RL 83 RX0 yX0_cellKey wsX0_cellKey) := gLess (gV (c1 := .code yX0_cellKey cX0_cellKey 2 (some .long)) tml_L_83 tim_yX0_cellKey tse_yX0_cellKey tin_X0 tco_yX0_cellKey) tco_yX0_cellKey
theorem gL_law_X0_place : GoodIn TB (wsV RL 87 RX0 yX0_place wsX0_place) := gLess (gV (c1 := .code yX0_place cX0_place 2 (some .int)) tml_L_87 tim_yX0_place tse_yX0_place tin_X0 tco_yX0_place) tco_yX0_place
theorem gL_law_X0_borne : GoodIn TB (wsV RL 92 RX0 yX0_borne wsX0_borne) := gLess (gV (c1 := .code yX0_borne cX0_borne 3 (some .long)) tml_L_92 tim_yX0_borne tse_yX0_borne tin_X0 tco_yX0_borne) tco_yX0_borne
theorem gL_law_X0_touched : GoodIn TB (wsV RL 96 RX0 yX0_touched wsX0_touched) := gLess (gV (c1 := .code yX0_touched cX0_touched 8 (some .int)) tml_L_96 tim_yX0_touched tse_yX0_touched tin_X0 tco_yX0_touched) tco_yX0_touched
theorem gL_law_X0_window : GoodIn TB (wsV RL 100 RX0 yX0_window wsX0_window) := gLess (gV (c1 := .code yX0_window cX0_window 1 (some .int)) tml_L_100 tim_yX0_window tse_yX0_window tin_X0 tco_yX0_window) tco_yX0_window
theorem gL_law_X0_moved : GoodIn TB (wsV RL 104 RX0 yX0_moved wsX0_moved) := gLess (gV (c1 := .code yX0_moved cX0_moved 1 (some .long)) tml_L_104 tim_yX0_moved tse_yX0_moved tin_X0 tco_yX0_moved) tco_yX0_moved
theorem gL_law_X1_place : GoodIn TB (wsV RL 91 RX1 yX1_place wsX1_place) := gLess (gV (c1 := .code yX1_place cX1_place 2 (some .int)) tml_L_91 tim_yX1_place tse_yX1_place tin_X1 tco_yX1_place) tco_yX1_place
theorem gL_law_X1_borne : GoodIn TB (wsV RL 95 RX1 yX1_borne wsX1_borne) := gLess (gV (c1 := .code yX1_borne cX1_borne 5 (some .long)) tml_L_95 tim_yX1_borne tse_yX1_borne tin_X1 tco_yX1_borne) tco_yX1_borne
theorem gL_law_X1_touched : GoodIn TB (wsV RL 99 RX1 yX1_touched wsX1_touched) := gLess (gV (c1 := .code yX1_touched cX1_touched 10 (some .int)) tml_L_99 tim_yX1_touched tse_yX1_touched tin_X1 tco_yX1_touched) tco_yX1_touched
theorem gL_law_X1_put : GoodIn TB (wsV RL 27 RX1 yX1_put wsX1_put) := gLess (gV (c1 := .code yX1_put cX1_put 10 (some .int)) tml_L_27 tim_yX1_put tse_yX1_put tin_X1 tco_yX1_put) tco_yX1_put
theorem gL_law_X1_fill : GoodIn TB (wsV RL 32 RX1 yX1_fill wsX1_fill) := gLess (gV (c1 := .code yX1_fill cX1_fill 11 (some .int)) tml_L_32 tim_yX1_fill tse_yX1_fill tin_X1 tco_yX1_fill) tco_yX1_fill
theorem gL_law_X1_remove : GoodIn TB (wsV RL 37 RX1 yX1_remove wsX1_remove) := gLess (gV (c1 := .code yX1_remove cX1_remove 7 (some .boolean)) tml_L_37 tim_yX1_remove tse_yX1_remove tin_X1 tco_yX1_remove) tco_yX1_remove
theorem gL_law_X1_drop : GoodIn TB (wsV RL 42 RX1 yX1_drop wsX1_drop) := gLess (gV (c1 := .code yX1_drop cX1_drop 9 (some .int)) tml_L_42 tim_yX1_drop tse_yX1_drop tin_X1 tco_yX1_drop) tco_yX1_drop
theorem gL_law_X1_has : GoodIn TB (wsV RL 46 RX1 yX1_has wsX1_has) := gLess (gV (c1 := .code yX1_has cX1_has 3 (some .boolean)) tml_L_46 tim_yX1_has tse_yX1_has tin_X1 tco_yX1_has) tco_yX1_has
theorem gL_law_X1_get : GoodIn TB (wsV RL 51 RX1 yX1_get wsX1_get) := gLess (gV (c1 := .code yX1_get cX1_get 4 (some .long)) tml_L_51 tim_yX1_get tse_yX1_get tin_X1 tco_yX1_get) tco_yX1_get
theorem gL_law_X1_floor : GoodIn TB (wsV RL 55 RX1 yX1_floor wsX1_floor) := gLess (gV (c1 := .code yX1_floor cX1_floor 6 (some .long)) tml_L_55 tim_yX1_floor tse_yX1_floor tin_X1 tco_yX1_floor) tco_yX1_floor
theorem gL_law_X1_ceiling : GoodIn TB (wsV RL 59 RX1 yX1_ceiling wsX1_ceiling) := gLess (gV (c1 := .code yX1_ceiling cX1_ceiling 6 (some .long)) tml_L_59 tim_yX1_ceiling tse_yX1_ceiling tin_X1 tco_yX1_ceiling) tco_yX1_ceiling
theorem gL_law_X1_select : GoodIn TB (wsV RL 64 RX1 yX1_select wsX1_select) := gLess (gV (c1 := .code yX1_select cX1_select 6 (some .long)) tml_L_64 tim_yX1_select tse_yX1_select tin_X1 tco_yX1_select) tco_yX1_select
theorem gL_law_X1_count : GoodIn TB (wsV RL 68 RX1 yX1_count wsX1_count) := gLess (gV (c1 := .code yX1_count cX1_count 7 (some .int)) tml_L_68 tim_yX1_count tse_yX1_count tin_X1 tco_yX1_count) tco_yX1_count
theorem gL_law_X1_sum : GoodIn TB (wsV RL 73 RX1 yX1_sum wsX1_sum) := gLess (gV (c1 := .code yX1_sum cX1_sum 8 (some .long)) tml_L_73 tim_yX1_sum tse_yX1_sum tin_X1 tco_yX1_sum) tco_yX1_sum
theorem gL_law_X1_size : GoodIn TB (wsV RL 78 RX1 yX1_size wsX1_size) := gLess (gV (c1 := .code yX1_size cX1_size 1 (some .int)) tml_L_78 tim_yX1_size tse_yX1_size tin_X1 tco_yX1_size) tco_yX1_size
theorem gL_law_X1_cells : GoodIn TB (wsV RL 82 RX1 yX1_cells wsX1_cells) := gLess (gV (c1 := .code yX1_cells cX1_cells 1 (some .int)) tml_L_82 tim_yX1_cells tse_yX1_cells tin_X1 tco_yX1_cells) tco_yX1_cells
theorem gL_law_X1_cellKey : GoodIn TB (wsV RL 86 RX1 yX1_cellKey wsX1_cellKey) := gLess (gV (c1 := .code yX1_cellKey cX1_cellKey 2 (some .long)) tml_L_86 tim_yX1_cellKey tse_yX1_cellKey tin_X1 tco_yX1_cellKey) tco_yX1_cellKey
theorem gL_law_X1_window : GoodIn TB (wsV RL 103 RX1 yX1_window wsX1_window) := gLess (gV (c1 := .code yX1_window cX1_window 1 (some .int)) tml_L_103 tim_yX1_window tse_yX1_window tin_X1 tco_yX1_window) tco_yX1_window
theorem gL_law_X1_moved : GoodIn TB (wsV RL 108 RX1 yX1_moved wsX1_moved) := gLess (gV (c1 := .code yX1_moved cX1_moved 1 (some .long)) tml_L_108 tim_yX1_moved tse_yX1_moved tin_X1 tco_yX1_moved) tco_yX1_moved
