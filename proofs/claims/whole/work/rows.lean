section
-- ===== PART A: goes FIRST, ahead of the names: the tables' words, and 'selects' of the private methods out of them =====
/-- a private method of a class that the tables say can be made, by its rows of tables_1 -/
def lw_okq (q : MethodName × Nat) : Prop := (q.1.cls ≠ "java/lang/invoke/MethodHandle" ∧ q.1.cls ≠ "java/lang/invoke/VarHandle") ∧ Cond.instantiable q.1.cls q.2 ∈ tables_1 ∧ Cond.privateMethod q.1 ∈ tables_1 ∧ Cond.instanceMethod q.1 ∈ tables_1
theorem lw_p0 : lw_okq (⟨"GappedStore", "cellOf", "(J)I"⟩, 7) := ⟨⟨by decide +kernel, by decide +kernel⟩, List.mem_of_getElem? (i := 5) (by decide +kernel), List.mem_of_getElem? (i := 45) (by decide +kernel), List.mem_of_getElem? (i := 46) (by decide +kernel)⟩
theorem lw_p1 : lw_okq (⟨"GappedStore", "cellNotBelow", "(J)I"⟩, 7) := ⟨⟨by decide +kernel, by decide +kernel⟩, List.mem_of_getElem? (i := 5) (by decide +kernel), List.mem_of_getElem? (i := 49) (by decide +kernel), List.mem_of_getElem? (i := 50) (by decide +kernel)⟩
theorem lw_p2 : lw_okq (⟨"GappedStore", "seek", "(J)I"⟩, 7) := ⟨⟨by decide +kernel, by decide +kernel⟩, List.mem_of_getElem? (i := 5) (by decide +kernel), List.mem_of_getElem? (i := 53) (by decide +kernel), List.mem_of_getElem? (i := 54) (by decide +kernel)⟩
theorem lw_p3 : lw_okq (⟨"GappedStore", "borneBy", "(I)J"⟩, 7) := ⟨⟨by decide +kernel, by decide +kernel⟩, List.mem_of_getElem? (i := 5) (by decide +kernel), List.mem_of_getElem? (i := 57) (by decide +kernel), List.mem_of_getElem? (i := 58) (by decide +kernel)⟩
theorem lw_p4 : lw_okq (⟨"GappedStore", "segments", "()I"⟩, 7) := ⟨⟨by decide +kernel, by decide +kernel⟩, List.mem_of_getElem? (i := 5) (by decide +kernel), List.mem_of_getElem? (i := 64) (by decide +kernel), List.mem_of_getElem? (i := 65) (by decide +kernel)⟩
theorem lw_p5 : lw_okq (⟨"GappedStore", "greatestKey", "(II)J"⟩, 7) := ⟨⟨by decide +kernel, by decide +kernel⟩, List.mem_of_getElem? (i := 5) (by decide +kernel), List.mem_of_getElem? (i := 71) (by decide +kernel), List.mem_of_getElem? (i := 72) (by decide +kernel)⟩
theorem lw_p6 : lw_okq (⟨"GappedStore", "putNew", "(JJ)Z"⟩, 7) := ⟨⟨by decide +kernel, by decide +kernel⟩, List.mem_of_getElem? (i := 5) (by decide +kernel), List.mem_of_getElem? (i := 75) (by decide +kernel), List.mem_of_getElem? (i := 76) (by decide +kernel)⟩
theorem lw_p7 : lw_okq (⟨"GappedStore", "heightWithRoom", "(I)I"⟩, 7) := ⟨⟨by decide +kernel, by decide +kernel⟩, List.mem_of_getElem? (i := 5) (by decide +kernel), List.mem_of_getElem? (i := 79) (by decide +kernel), List.mem_of_getElem? (i := 80) (by decide +kernel)⟩
theorem lw_p8 : lw_okq (⟨"GappedStore", "keysInWindow", "(II)I"⟩, 7) := ⟨⟨by decide +kernel, by decide +kernel⟩, List.mem_of_getElem? (i := 5) (by decide +kernel), List.mem_of_getElem? (i := 83) (by decide +kernel), List.mem_of_getElem? (i := 84) (by decide +kernel)⟩
theorem lw_p9 : lw_okq (⟨"GappedStore", "keysAmong", "(II)I"⟩, 7) := ⟨⟨by decide +kernel, by decide +kernel⟩, List.mem_of_getElem? (i := 5) (by decide +kernel), List.mem_of_getElem? (i := 90) (by decide +kernel), List.mem_of_getElem? (i := 91) (by decide +kernel)⟩
theorem lw_p10 : lw_okq (⟨"GappedStore", "mostKeys", "(I)I"⟩, 7) := ⟨⟨by decide +kernel, by decide +kernel⟩, List.mem_of_getElem? (i := 5) (by decide +kernel), List.mem_of_getElem? (i := 94) (by decide +kernel), List.mem_of_getElem? (i := 95) (by decide +kernel)⟩
theorem lw_p11 : lw_okq (⟨"GappedStore", "pack", "(II)I"⟩, 7) := ⟨⟨by decide +kernel, by decide +kernel⟩, List.mem_of_getElem? (i := 5) (by decide +kernel), List.mem_of_getElem? (i := 102) (by decide +kernel), List.mem_of_getElem? (i := 103) (by decide +kernel)⟩
theorem lw_p12 : lw_okq (⟨"GappedStore", "shift", "(II)V"⟩, 7) := ⟨⟨by decide +kernel, by decide +kernel⟩, List.mem_of_getElem? (i := 5) (by decide +kernel), List.mem_of_getElem? (i := 106) (by decide +kernel), List.mem_of_getElem? (i := 107) (by decide +kernel)⟩
theorem lw_p13 : lw_okq (⟨"GappedStore", "clear", "(I)V"⟩, 7) := ⟨⟨by decide +kernel, by decide +kernel⟩, List.mem_of_getElem? (i := 5) (by decide +kernel), List.mem_of_getElem? (i := 110) (by decide +kernel), List.mem_of_getElem? (i := 111) (by decide +kernel)⟩
theorem lw_p14 : lw_okq (⟨"GappedStore", "insertPacked", "(IIJJ)V"⟩, 7) := ⟨⟨by decide +kernel, by decide +kernel⟩, List.mem_of_getElem? (i := 5) (by decide +kernel), List.mem_of_getElem? (i := 114) (by decide +kernel), List.mem_of_getElem? (i := 115) (by decide +kernel)⟩
theorem lw_p15 : lw_okq (⟨"GappedStore", "spreadPacked", "(III)V"⟩, 7) := ⟨⟨by decide +kernel, by decide +kernel⟩, List.mem_of_getElem? (i := 5) (by decide +kernel), List.mem_of_getElem? (i := 118) (by decide +kernel), List.mem_of_getElem? (i := 119) (by decide +kernel)⟩
def lw_privs_1 : List (MethodName × Nat) := [(⟨"GappedStore", "cellOf", "(J)I"⟩, 7), (⟨"GappedStore", "cellNotBelow", "(J)I"⟩, 7), (⟨"GappedStore", "seek", "(J)I"⟩, 7), (⟨"GappedStore", "borneBy", "(I)J"⟩, 7), (⟨"GappedStore", "segments", "()I"⟩, 7), (⟨"GappedStore", "greatestKey", "(II)J"⟩, 7), (⟨"GappedStore", "putNew", "(JJ)Z"⟩, 7), (⟨"GappedStore", "heightWithRoom", "(I)I"⟩, 7), (⟨"GappedStore", "keysInWindow", "(II)I"⟩, 7), (⟨"GappedStore", "keysAmong", "(II)I"⟩, 7), (⟨"GappedStore", "mostKeys", "(I)I"⟩, 7), (⟨"GappedStore", "pack", "(II)I"⟩, 7), (⟨"GappedStore", "shift", "(II)V"⟩, 7), (⟨"GappedStore", "clear", "(I)V"⟩, 7), (⟨"GappedStore", "insertPacked", "(IIJJ)V"⟩, 7), (⟨"GappedStore", "spreadPacked", "(III)V"⟩, 7)]
theorem lw_r1 : ∀ q ∈ lw_privs_1, lw_okq q := List.forall_mem_cons.mpr ⟨lw_p0, List.forall_mem_cons.mpr ⟨lw_p1, List.forall_mem_cons.mpr ⟨lw_p2, List.forall_mem_cons.mpr ⟨lw_p3, List.forall_mem_cons.mpr ⟨lw_p4, List.forall_mem_cons.mpr ⟨lw_p5, List.forall_mem_cons.mpr ⟨lw_p6, List.forall_mem_cons.mpr ⟨lw_p7, List.forall_mem_cons.mpr ⟨lw_p8, List.forall_mem_cons.mpr ⟨lw_p9, List.forall_mem_cons.mpr ⟨lw_p10, List.forall_mem_cons.mpr ⟨lw_p11, List.forall_mem_cons.mpr ⟨lw_p12, List.forall_mem_cons.mpr ⟨lw_p13, List.forall_mem_cons.mpr ⟨lw_p14, List.forall_mem_cons.mpr ⟨lw_p15, fun _ h => absurd h List.not_mem_nil⟩⟩⟩⟩⟩⟩⟩⟩⟩⟩⟩⟩⟩⟩⟩⟩
theorem lw_p16 : lw_okq (⟨"GappedStore", "takeOut", "(I)V"⟩, 7) := ⟨⟨by decide +kernel, by decide +kernel⟩, List.mem_of_getElem? (i := 5) (by decide +kernel), List.mem_of_getElem? (i := 131) (by decide +kernel), List.mem_of_getElem? (i := 132) (by decide +kernel)⟩
theorem lw_p17 : lw_okq (⟨"GappedStore", "heightWithEnough", "(I)I"⟩, 7) := ⟨⟨by decide +kernel, by decide +kernel⟩, List.mem_of_getElem? (i := 5) (by decide +kernel), List.mem_of_getElem? (i := 135) (by decide +kernel), List.mem_of_getElem? (i := 136) (by decide +kernel)⟩
theorem lw_p18 : lw_okq (⟨"GappedStore", "fewestKeys", "(I)I"⟩, 7) := ⟨⟨by decide +kernel, by decide +kernel⟩, List.mem_of_getElem? (i := 5) (by decide +kernel), List.mem_of_getElem? (i := 139) (by decide +kernel), List.mem_of_getElem? (i := 140) (by decide +kernel)⟩
theorem lw_p19 : lw_okq (⟨"GappedStore", "halve", "()V"⟩, 7) := ⟨⟨by decide +kernel, by decide +kernel⟩, List.mem_of_getElem? (i := 5) (by decide +kernel), List.mem_of_getElem? (i := 143) (by decide +kernel), List.mem_of_getElem? (i := 144) (by decide +kernel)⟩
theorem lw_p20 : lw_okq (⟨"GappedStore", "isHeldBetween", "(IJJ)Z"⟩, 7) := ⟨⟨by decide +kernel, by decide +kernel⟩, List.mem_of_getElem? (i := 5) (by decide +kernel), List.mem_of_getElem? (i := 175) (by decide +kernel), List.mem_of_getElem? (i := 176) (by decide +kernel)⟩
theorem lw_p21 : lw_okq (⟨"GappedStore", "noteBlock", "(II)I"⟩, 7) := ⟨⟨by decide +kernel, by decide +kernel⟩, List.mem_of_getElem? (i := 5) (by decide +kernel), List.mem_of_getElem? (i := 210) (by decide +kernel), List.mem_of_getElem? (i := 211) (by decide +kernel)⟩
theorem lw_p22 : lw_okq (⟨"GappedStoreModel", "isNode", "(I)Z"⟩, 10) := ⟨⟨by decide +kernel, by decide +kernel⟩, List.mem_of_getElem? (i := 225) (by decide +kernel), List.mem_of_getElem? (i := 267) (by decide +kernel), List.mem_of_getElem? (i := 268) (by decide +kernel)⟩
theorem lw_p23 : lw_okq (⟨"GappedStoreModel", "segments", "()I"⟩, 10) := ⟨⟨by decide +kernel, by decide +kernel⟩, List.mem_of_getElem? (i := 225) (by decide +kernel), List.mem_of_getElem? (i := 271) (by decide +kernel), List.mem_of_getElem? (i := 272) (by decide +kernel)⟩
theorem lw_p24 : lw_okq (⟨"GappedStoreModel", "placeOf", "(I)I"⟩, 10) := ⟨⟨by decide +kernel, by decide +kernel⟩, List.mem_of_getElem? (i := 225) (by decide +kernel), List.mem_of_getElem? (i := 275) (by decide +kernel), List.mem_of_getElem? (i := 276) (by decide +kernel)⟩
theorem lw_p25 : lw_okq (⟨"GappedStoreModel", "levels", "()I"⟩, 10) := ⟨⟨by decide +kernel, by decide +kernel⟩, List.mem_of_getElem? (i := 225) (by decide +kernel), List.mem_of_getElem? (i := 279) (by decide +kernel), List.mem_of_getElem? (i := 280) (by decide +kernel)⟩
theorem lw_p26 : lw_okq (⟨"GappedStoreModel", "bears", "(I)J"⟩, 10) := ⟨⟨by decide +kernel, by decide +kernel⟩, List.mem_of_getElem? (i := 225) (by decide +kernel), List.mem_of_getElem? (i := 291) (by decide +kernel), List.mem_of_getElem? (i := 292) (by decide +kernel)⟩
theorem lw_p27 : lw_okq (⟨"GappedStoreModel", "greatest", "(II)J"⟩, 10) := ⟨⟨by decide +kernel, by decide +kernel⟩, List.mem_of_getElem? (i := 225) (by decide +kernel), List.mem_of_getElem? (i := 295) (by decide +kernel), List.mem_of_getElem? (i := 296) (by decide +kernel)⟩
theorem lw_p28 : lw_okq (⟨"GappedStoreModel", "seek", "(J)I"⟩, 10) := ⟨⟨by decide +kernel, by decide +kernel⟩, List.mem_of_getElem? (i := 225) (by decide +kernel), List.mem_of_getElem? (i := 303) (by decide +kernel), List.mem_of_getElem? (i := 304) (by decide +kernel)⟩
theorem lw_p29 : lw_okq (⟨"GappedStoreModel", "step", "(IJ)I"⟩, 10) := ⟨⟨by decide +kernel, by decide +kernel⟩, List.mem_of_getElem? (i := 225) (by decide +kernel), List.mem_of_getElem? (i := 307) (by decide +kernel), List.mem_of_getElem? (i := 308) (by decide +kernel)⟩
theorem lw_p30 : lw_okq (⟨"GappedStoreModel", "cellOf", "(J)I"⟩, 10) := ⟨⟨by decide +kernel, by decide +kernel⟩, List.mem_of_getElem? (i := 225) (by decide +kernel), List.mem_of_getElem? (i := 315) (by decide +kernel), List.mem_of_getElem? (i := 316) (by decide +kernel)⟩
theorem lw_p31 : lw_okq (⟨"GappedStoreModel", "held", "(II)I"⟩, 10) := ⟨⟨by decide +kernel, by decide +kernel⟩, List.mem_of_getElem? (i := 225) (by decide +kernel), List.mem_of_getElem? (i := 322) (by decide +kernel), List.mem_of_getElem? (i := 323) (by decide +kernel)⟩
def lw_privs_2 : List (MethodName × Nat) := [(⟨"GappedStore", "takeOut", "(I)V"⟩, 7), (⟨"GappedStore", "heightWithEnough", "(I)I"⟩, 7), (⟨"GappedStore", "fewestKeys", "(I)I"⟩, 7), (⟨"GappedStore", "halve", "()V"⟩, 7), (⟨"GappedStore", "isHeldBetween", "(IJJ)Z"⟩, 7), (⟨"GappedStore", "noteBlock", "(II)I"⟩, 7), (⟨"GappedStoreModel", "isNode", "(I)Z"⟩, 10), (⟨"GappedStoreModel", "segments", "()I"⟩, 10), (⟨"GappedStoreModel", "placeOf", "(I)I"⟩, 10), (⟨"GappedStoreModel", "levels", "()I"⟩, 10), (⟨"GappedStoreModel", "bears", "(I)J"⟩, 10), (⟨"GappedStoreModel", "greatest", "(II)J"⟩, 10), (⟨"GappedStoreModel", "seek", "(J)I"⟩, 10), (⟨"GappedStoreModel", "step", "(IJ)I"⟩, 10), (⟨"GappedStoreModel", "cellOf", "(J)I"⟩, 10), (⟨"GappedStoreModel", "held", "(II)I"⟩, 10)]
theorem lw_r2 : ∀ q ∈ lw_privs_2, lw_okq q := List.forall_mem_cons.mpr ⟨lw_p16, List.forall_mem_cons.mpr ⟨lw_p17, List.forall_mem_cons.mpr ⟨lw_p18, List.forall_mem_cons.mpr ⟨lw_p19, List.forall_mem_cons.mpr ⟨lw_p20, List.forall_mem_cons.mpr ⟨lw_p21, List.forall_mem_cons.mpr ⟨lw_p22, List.forall_mem_cons.mpr ⟨lw_p23, List.forall_mem_cons.mpr ⟨lw_p24, List.forall_mem_cons.mpr ⟨lw_p25, List.forall_mem_cons.mpr ⟨lw_p26, List.forall_mem_cons.mpr ⟨lw_p27, List.forall_mem_cons.mpr ⟨lw_p28, List.forall_mem_cons.mpr ⟨lw_p29, List.forall_mem_cons.mpr ⟨lw_p30, List.forall_mem_cons.mpr ⟨lw_p31, fun _ h => absurd h List.not_mem_nil⟩⟩⟩⟩⟩⟩⟩⟩⟩⟩⟩⟩⟩⟩⟩⟩
theorem lw_p32 : lw_okq (⟨"GappedStoreModel", "most", "(I)I"⟩, 10) := ⟨⟨by decide +kernel, by decide +kernel⟩, List.mem_of_getElem? (i := 225) (by decide +kernel), List.mem_of_getElem? (i := 326) (by decide +kernel), List.mem_of_getElem? (i := 327) (by decide +kernel)⟩
theorem lw_p33 : lw_okq (⟨"GappedStoreModel", "lift", "(II)V"⟩, 10) := ⟨⟨by decide +kernel, by decide +kernel⟩, List.mem_of_getElem? (i := 225) (by decide +kernel), List.mem_of_getElem? (i := 330) (by decide +kernel), List.mem_of_getElem? (i := 331) (by decide +kernel)⟩
theorem lw_p34 : lw_okq (⟨"GappedStoreModel", "join", "(JJ)V"⟩, 10) := ⟨⟨by decide +kernel, by decide +kernel⟩, List.mem_of_getElem? (i := 225) (by decide +kernel), List.mem_of_getElem? (i := 334) (by decide +kernel), List.mem_of_getElem? (i := 335) (by decide +kernel)⟩
theorem lw_p35 : lw_okq (⟨"GappedStoreModel", "spread", "(II)V"⟩, 10) := ⟨⟨by decide +kernel, by decide +kernel⟩, List.mem_of_getElem? (i := 225) (by decide +kernel), List.mem_of_getElem? (i := 338) (by decide +kernel), List.mem_of_getElem? (i := 339) (by decide +kernel)⟩
theorem lw_p36 : lw_okq (⟨"GappedStoreModel", "fewest", "(I)I"⟩, 10) := ⟨⟨by decide +kernel, by decide +kernel⟩, List.mem_of_getElem? (i := 225) (by decide +kernel), List.mem_of_getElem? (i := 351) (by decide +kernel), List.mem_of_getElem? (i := 352) (by decide +kernel)⟩
def lw_privs_3 : List (MethodName × Nat) := [(⟨"GappedStoreModel", "most", "(I)I"⟩, 10), (⟨"GappedStoreModel", "lift", "(II)V"⟩, 10), (⟨"GappedStoreModel", "join", "(JJ)V"⟩, 10), (⟨"GappedStoreModel", "spread", "(II)V"⟩, 10), (⟨"GappedStoreModel", "fewest", "(I)I"⟩, 10)]
theorem lw_r3 : ∀ q ∈ lw_privs_3, lw_okq q := List.forall_mem_cons.mpr ⟨lw_p32, List.forall_mem_cons.mpr ⟨lw_p33, List.forall_mem_cons.mpr ⟨lw_p34, List.forall_mem_cons.mpr ⟨lw_p35, List.forall_mem_cons.mpr ⟨lw_p36, fun _ h => absurd h List.not_mem_nil⟩⟩⟩⟩⟩
def lw_privs : List (MethodName × Nat) := lw_privs_1 ++ (lw_privs_2 ++ (lw_privs_3))
def lw_tbl : List Cond := k2_sels lw_privs ++ tables_1
theorem lw_privs_ok : ∀ q ∈ lw_privs, lw_okq q := by
  show ∀ q ∈ lw_privs_1 ++ (lw_privs_2 ++ (lw_privs_3)), lw_okq q
  exact List.forall_mem_append.mpr ⟨lw_r1, List.forall_mem_append.mpr ⟨lw_r2, lw_r3⟩⟩

def NOK : Int64 := -9223372036854775808
def RX0 : String := "GappedStore"
def RX1 : String := "GappedStoreModel"
def RJ7 : String := "java/util/Arrays"
def RL : String := "GappedStoreLaw"
def TX0 : u_T := fun k => match k with
  | 0 => ("GappedStore", "keys", "[J", true)
  | 1 => ("GappedStore", "values", "[J", true)
  | 2 => ("GappedStore", "blocks", "[I", true)
  | 3 => ("GappedStore", "leastLevels", "I", true)
  | 4 => ("GappedStore", "levels", "I", false)
  | 5 => ("GappedStore", "latestHeight", "I", false)
  | _ => ("GappedStore", "movedKeys", "J", false)
def tyX0 : Nat → FieldType := fun k => match k with
  | 0 => .array .long
  | 1 => .array .long
  | 2 => .array .int
  | 3 => .int
  | 4 => .int
  | 5 => .int
  | _ => .long
theorem nmX0 : ∀ a, a < 7 → ∀ b, b < 7 → a ≠ b → (TX0 a).2.1 ≠ (TX0 b).2.1 := by decide +kernel
theorem tyX0_ok : ∀ k, k < 7 → parseFieldDescriptor (TX0 k).2.2.1 = some (tyX0 k) := by decide +kernel
def TX1 : u_T := fun k => match k with
  | 0 => ("GappedStoreModel", "least", "I", true)
  | 1 => ("GappedStoreModel", "cells", "I", false)
  | 2 => ("GappedStoreModel", "full", "[Z", true)
  | 3 => ("GappedStoreModel", "keys", "[J", true)
  | 4 => ("GappedStoreModel", "values", "[J", true)
  | 5 => ("GappedStoreModel", "window", "I", false)
  | 6 => ("GappedStoreModel", "moved", "J", false)
  | 7 => ("GappedStoreModel", "waiting", "I", false)
  | 8 => ("GappedStoreModel", "waitKeys", "[J", true)
  | _ => ("GappedStoreModel", "waitValues", "[J", true)
def tyX1 : Nat → FieldType := fun k => match k with
  | 0 => .int
  | 1 => .int
  | 2 => .array .boolean
  | 3 => .array .long
  | 4 => .array .long
  | 5 => .int
  | 6 => .long
  | 7 => .int
  | 8 => .array .long
  | _ => .array .long
theorem nmX1 : ∀ a, a < 10 → ∀ b, b < 10 → a ≠ b → (TX1 a).2.1 ≠ (TX1 b).2.1 := by decide +kernel
theorem tyX1_ok : ∀ k, k < 10 → parseFieldDescriptor (TX1 k).2.2.1 = some (tyX1 k) := by decide +kernel
abbrev vwCl : List vw_C := [(RX0, TX0, 7), (RX1, TX1, 10)]
abbrev cX0_init : ByteArray := prog_1_method_1_code
def yX0_init : MethodName := ⟨RX0, "<init>", "(I)V"⟩
abbrev cJ7_fill_d0a16 : ByteArray := prog_4_method_101_code
def yJ7_fill_d0a16 : MethodName := ⟨RJ7, "fill", "([JJ)V"⟩
abbrev cX0_put : ByteArray := prog_1_method_2_code
def yX0_put : MethodName := ⟨RX0, "put", "(JJ)I"⟩
abbrev cX0_cellOf : ByteArray := prog_1_method_30_code
def yX0_cellOf : MethodName := ⟨RX0, "cellOf", "(J)I"⟩
abbrev cX0_cellNotBelow : ByteArray := prog_1_method_29_code
def yX0_cellNotBelow : MethodName := ⟨RX0, "cellNotBelow", "(J)I"⟩
abbrev cX0_seek : ByteArray := prog_1_method_22_code
def yX0_seek : MethodName := ⟨RX0, "seek", "(J)I"⟩
abbrev cX0_borneBy : ByteArray := prog_1_method_23_code
def yX0_borneBy : MethodName := ⟨RX0, "borneBy", "(I)J"⟩
abbrev cX0_depthOf : ByteArray := prog_1_method_25_code
def yX0_depthOf : MethodName := ⟨RX0, "depthOf", "(I)I"⟩
abbrev cX0_segments : ByteArray := prog_1_method_21_code
def yX0_segments : MethodName := ⟨RX0, "segments", "()I"⟩
abbrev cX0_windowCells : ByteArray := prog_1_method_33_code
def yX0_windowCells : MethodName := ⟨RX0, "windowCells", "(I)I"⟩
abbrev cX0_greatestKey : ByteArray := prog_1_method_24_code
def yX0_greatestKey : MethodName := ⟨RX0, "greatestKey", "(II)J"⟩
abbrev cX0_putNew : ByteArray := prog_1_method_40_code
def yX0_putNew : MethodName := ⟨RX0, "putNew", "(JJ)Z"⟩
abbrev cX0_heightWithRoom : ByteArray := prog_1_method_38_code
def yX0_heightWithRoom : MethodName := ⟨RX0, "heightWithRoom", "(I)I"⟩
abbrev cX0_keysInWindow : ByteArray := prog_1_method_35_code
def yX0_keysInWindow : MethodName := ⟨RX0, "keysInWindow", "(II)I"⟩
abbrev cX0_firstCell : ByteArray := prog_1_method_34_code
def yX0_firstCell : MethodName := ⟨RX0, "firstCell", "(II)I"⟩
abbrev cX0_keysAmong : ByteArray := prog_1_method_32_code
def yX0_keysAmong : MethodName := ⟨RX0, "keysAmong", "(II)I"⟩
abbrev cX0_mostKeys : ByteArray := prog_1_method_36_code
def yX0_mostKeys : MethodName := ⟨RX0, "mostKeys", "(I)I"⟩
abbrev cX0_cells : ByteArray := prog_1_method_14_code
def yX0_cells : MethodName := ⟨RX0, "cells", "()I"⟩
abbrev cX0_pack : ByteArray := prog_1_method_43_code
def yX0_pack : MethodName := ⟨RX0, "pack", "(II)I"⟩
abbrev cX0_shift : ByteArray := prog_1_method_46_code
def yX0_shift : MethodName := ⟨RX0, "shift", "(II)V"⟩
abbrev cX0_clear : ByteArray := prog_1_method_47_code
def yX0_clear : MethodName := ⟨RX0, "clear", "(I)V"⟩
abbrev cX0_insertPacked : ByteArray := prog_1_method_44_code
def yX0_insertPacked : MethodName := ⟨RX0, "insertPacked", "(IIJJ)V"⟩
abbrev cX0_spreadPacked : ByteArray := prog_1_method_45_code
def yX0_spreadPacked : MethodName := ⟨RX0, "spreadPacked", "(III)V"⟩
abbrev cX0_fill : ByteArray := prog_1_method_3_code
def yX0_fill : MethodName := ⟨RX0, "fill", "(JJI)I"⟩
abbrev cX0_remove : ByteArray := prog_1_method_4_code
def yX0_remove : MethodName := ⟨RX0, "remove", "(J)Z"⟩
abbrev cX0_takeOut : ByteArray := prog_1_method_41_code
def yX0_takeOut : MethodName := ⟨RX0, "takeOut", "(I)V"⟩
abbrev cX0_heightWithEnough : ByteArray := prog_1_method_39_code
def yX0_heightWithEnough : MethodName := ⟨RX0, "heightWithEnough", "(I)I"⟩
abbrev cX0_fewestKeys : ByteArray := prog_1_method_37_code
def yX0_fewestKeys : MethodName := ⟨RX0, "fewestKeys", "(I)I"⟩
abbrev cX0_halve : ByteArray := prog_1_method_42_code
def yX0_halve : MethodName := ⟨RX0, "halve", "()V"⟩
abbrev cX0_drop : ByteArray := prog_1_method_5_code
def yX0_drop : MethodName := ⟨RX0, "drop", "(JI)I"⟩
abbrev cX0_has : ByteArray := prog_1_method_6_code
def yX0_has : MethodName := ⟨RX0, "has", "(J)Z"⟩
abbrev cX0_get : ByteArray := prog_1_method_7_code
def yX0_get : MethodName := ⟨RX0, "get", "(J)J"⟩
abbrev cX0_floor : ByteArray := prog_1_method_8_code
def yX0_floor : MethodName := ⟨RX0, "floor", "(J)J"⟩
abbrev cX0_ceiling : ByteArray := prog_1_method_9_code
def yX0_ceiling : MethodName := ⟨RX0, "ceiling", "(J)J"⟩
abbrev cX0_select : ByteArray := prog_1_method_10_code
def yX0_select : MethodName := ⟨RX0, "select", "(I)J"⟩
abbrev cX0_count : ByteArray := prog_1_method_11_code
def yX0_count : MethodName := ⟨RX0, "count", "(JJ)I"⟩
abbrev cX0_isHeldBetween : ByteArray := prog_1_method_31_code
def yX0_isHeldBetween : MethodName := ⟨RX0, "isHeldBetween", "(IJJ)Z"⟩
abbrev cX0_sum : ByteArray := prog_1_method_12_code
def yX0_sum : MethodName := ⟨RX0, "sum", "(JJ)J"⟩
abbrev cX0_size : ByteArray := prog_1_method_13_code
def yX0_size : MethodName := ⟨RX0, "size", "()I"⟩
abbrev cX0_cellKey : ByteArray := prog_1_method_15_code
def yX0_cellKey : MethodName := ⟨RX0, "cellKey", "(I)J"⟩
abbrev cX0_place : ByteArray := prog_1_method_16_code
def yX0_place : MethodName := ⟨RX0, "place", "(I)I"⟩
abbrev cX0_placeInTree : ByteArray := prog_1_method_27_code
def yX0_placeInTree : MethodName := ⟨RX0, "placeInTree", "(II)I"⟩
abbrev cX0_nodesOfTree : ByteArray := prog_1_method_26_code
def yX0_nodesOfTree : MethodName := ⟨RX0, "nodesOfTree", "(I)I"⟩
abbrev cX0_borne : ByteArray := prog_1_method_17_code
def yX0_borne : MethodName := ⟨RX0, "borne", "(I)J"⟩
abbrev cX0_touched : ByteArray := prog_1_method_18_code
def yX0_touched : MethodName := ⟨RX0, "touched", "(JI)I"⟩
abbrev cX0_noteBlock : ByteArray := prog_1_method_28_code
def yX0_noteBlock : MethodName := ⟨RX0, "noteBlock", "(II)I"⟩
abbrev cX0_window : ByteArray := prog_1_method_19_code
def yX0_window : MethodName := ⟨RX0, "window", "()I"⟩
abbrev cX0_moved : ByteArray := prog_1_method_20_code
def yX0_moved : MethodName := ⟨RX0, "moved", "()J"⟩
abbrev cL_cell : ByteArray := method_2_code
def yL_cell : MethodName := ⟨RL, "cell", "([II)I"⟩
abbrev cX1_init : ByteArray := prog_3_method_1_code
def yX1_init : MethodName := ⟨RX1, "<init>", "(I)V"⟩
abbrev cX1_place : ByteArray := prog_3_method_11_code
def yX1_place : MethodName := ⟨RX1, "place", "(I)I"⟩
abbrev cX1_isNode : ByteArray := prog_3_method_10_code
def yX1_isNode : MethodName := ⟨RX1, "isNode", "(I)Z"⟩
abbrev cX1_segments : ByteArray := prog_3_method_2_code
def yX1_segments : MethodName := ⟨RX1, "segments", "()I"⟩
abbrev cX1_placeOf : ByteArray := prog_3_method_9_code
def yX1_placeOf : MethodName := ⟨RX1, "placeOf", "(I)I"⟩
abbrev cX1_levels : ByteArray := prog_3_method_3_code
def yX1_levels : MethodName := ⟨RX1, "levels", "()I"⟩
abbrev cX1_levelOf : ByteArray := prog_3_method_5_code
def yX1_levelOf : MethodName := ⟨RX1, "levelOf", "(I)I"⟩
abbrev cX1_borne : ByteArray := prog_3_method_12_code
def yX1_borne : MethodName := ⟨RX1, "borne", "(I)J"⟩
abbrev cX1_bears : ByteArray := prog_3_method_6_code
def yX1_bears : MethodName := ⟨RX1, "bears", "(I)J"⟩
abbrev cX1_greatest : ByteArray := prog_3_method_4_code
def yX1_greatest : MethodName := ⟨RX1, "greatest", "(II)J"⟩
abbrev cX1_touched : ByteArray := prog_3_method_13_code
def yX1_touched : MethodName := ⟨RX1, "touched", "(JI)I"⟩
abbrev cX1_seek : ByteArray := prog_3_method_8_code
def yX1_seek : MethodName := ⟨RX1, "seek", "(J)I"⟩
abbrev cX1_step : ByteArray := prog_3_method_7_code
def yX1_step : MethodName := ⟨RX1, "step", "(IJ)I"⟩
abbrev cX1_put : ByteArray := prog_3_method_22_code
def yX1_put : MethodName := ⟨RX1, "put", "(JJ)I"⟩
abbrev cX1_cellOf : ByteArray := prog_3_method_21_code
def yX1_cellOf : MethodName := ⟨RX1, "cellOf", "(J)I"⟩
abbrev cX1_firstOf : ByteArray := prog_3_method_16_code
def yX1_firstOf : MethodName := ⟨RX1, "firstOf", "(II)I"⟩
abbrev cX1_held : ByteArray := prog_3_method_17_code
def yX1_held : MethodName := ⟨RX1, "held", "(II)I"⟩
abbrev cX1_most : ByteArray := prog_3_method_14_code
def yX1_most : MethodName := ⟨RX1, "most", "(I)I"⟩
abbrev cX1_lift : ByteArray := prog_3_method_18_code
def yX1_lift : MethodName := ⟨RX1, "lift", "(II)V"⟩
abbrev cX1_join : ByteArray := prog_3_method_19_code
def yX1_join : MethodName := ⟨RX1, "join", "(JJ)V"⟩
abbrev cX1_spread : ByteArray := prog_3_method_20_code
def yX1_spread : MethodName := ⟨RX1, "spread", "(II)V"⟩
abbrev cX1_fill : ByteArray := prog_3_method_23_code
def yX1_fill : MethodName := ⟨RX1, "fill", "(JJI)I"⟩
abbrev cX1_remove : ByteArray := prog_3_method_24_code
def yX1_remove : MethodName := ⟨RX1, "remove", "(J)Z"⟩
abbrev cX1_fewest : ByteArray := prog_3_method_15_code
def yX1_fewest : MethodName := ⟨RX1, "fewest", "(I)I"⟩
abbrev cX1_drop : ByteArray := prog_3_method_25_code
def yX1_drop : MethodName := ⟨RX1, "drop", "(JI)I"⟩
abbrev cX1_ceiling : ByteArray := prog_3_method_29_code
def yX1_ceiling : MethodName := ⟨RX1, "ceiling", "(J)J"⟩
abbrev cX1_has : ByteArray := prog_3_method_26_code
def yX1_has : MethodName := ⟨RX1, "has", "(J)Z"⟩
abbrev cX1_get : ByteArray := prog_3_method_27_code
def yX1_get : MethodName := ⟨RX1, "get", "(J)J"⟩
abbrev cX1_floor : ByteArray := prog_3_method_28_code
def yX1_floor : MethodName := ⟨RX1, "floor", "(J)J"⟩
abbrev cX1_select : ByteArray := prog_3_method_30_code
def yX1_select : MethodName := ⟨RX1, "select", "(I)J"⟩
abbrev cX1_count : ByteArray := prog_3_method_31_code
def yX1_count : MethodName := ⟨RX1, "count", "(JJ)I"⟩
abbrev cX1_sum : ByteArray := prog_3_method_32_code
def yX1_sum : MethodName := ⟨RX1, "sum", "(JJ)J"⟩
abbrev cX1_size : ByteArray := prog_3_method_33_code
def yX1_size : MethodName := ⟨RX1, "size", "()I"⟩
abbrev cX1_cells : ByteArray := prog_3_method_34_code
def yX1_cells : MethodName := ⟨RX1, "cells", "()I"⟩
abbrev cX1_cellKey : ByteArray := prog_3_method_35_code
def yX1_cellKey : MethodName := ⟨RX1, "cellKey", "(I)J"⟩
abbrev cX1_window : ByteArray := prog_3_method_36_code
def yX1_window : MethodName := ⟨RX1, "window", "()I"⟩
abbrev cX1_moved : ByteArray := prog_3_method_37_code
def yX1_moved : MethodName := ⟨RX1, "moved", "()J"⟩
abbrev cL_law : ByteArray := code
def TB : List Cond := lw_tbl.filter goodWord
theorem tb_r {w : Cond} (k : Nat) (h : tables_1[k]? = some w) (hg : goodWord w = true) : w ∈ TB := List.mem_filter.mpr ⟨List.mem_append_right _ (List.mem_of_getElem? h), hg⟩
theorem tb_l {w : Cond} (k : Nat) (h : (k2_sels lw_privs)[k]? = some w) (hg : goodWord w = true) : w ∈ TB := List.mem_filter.mpr ⟨List.mem_append_left _ (List.mem_of_getElem? h), hg⟩
theorem tin_L : (Cond.initialized RL) ∈ TB := tb_r 0 (by decide +kernel) (by decide +kernel)
theorem tin_X0 : (Cond.initialized RX0) ∈ TB := tb_r 1 (by decide +kernel) (by decide +kernel)
theorem tin_J7 : (Cond.initialized RJ7) ∈ TB := tb_r 2 (by decide +kernel) (by decide +kernel)
theorem tin_X1 : (Cond.initialized RX1) ∈ TB := tb_r 3 (by decide +kernel) (by decide +kernel)
theorem tcl_L_7 : (Cond.classLink RL 7 RX0) ∈ TB := tb_r 4 (by decide +kernel) (by decide +kernel)
theorem tis_X0 : (Cond.instantiable RX0 7) ∈ TB := tb_r 5 (by decide +kernel) (by decide +kernel)
theorem tml_L_15 : (Cond.methodLink RL 15 yX0_init) ∈ TB := tb_r 6 (by decide +kernel) (by decide +kernel)
theorem tim_yX0_init : (Cond.instanceMethod yX0_init) ∈ TB := tb_r 7 (by decide +kernel) (by decide +kernel)
theorem tco_yX0_init : (Cond.code yX0_init cX0_init 2 none) ∈ TB := tb_r 8 (by decide +kernel) (by decide +kernel)
theorem tml_X0_3 : (Cond.methodLink RX0 3 objectInit) ∈ TB := tb_r 9 (by decide +kernel) (by decide +kernel)
theorem tim_objectInit : (Cond.instanceMethod objectInit) ∈ TB := tb_r 10 (by decide +kernel) (by decide +kernel)
theorem tco_objectInit : (Cond.code objectInit ⟨#[0xb1]⟩ 1 none) ∈ TB := tb_r 11 (by decide +kernel) (by decide +kernel)
theorem tcn_X0_13 : (Cond.constantLong RX0 13 NOK) ∈ TB := tb_r 12 (by decide +kernel) (by decide +kernel)
theorem tml_X0_15 : (Cond.methodLink RX0 15 yJ7_fill_d0a16) ∈ TB := tb_r 13 (by decide +kernel) (by decide +kernel)
theorem tst_yJ7_fill_d0a16 : (Cond.static yJ7_fill_d0a16) ∈ TB := tb_r 14 (by decide +kernel) (by decide +kernel)
theorem tco_yJ7_fill_d0a16 : (Cond.code yJ7_fill_d0a16 cJ7_fill_d0a16 5 none) ∈ TB := tb_r 15 (by decide +kernel) (by decide +kernel)
theorem tfl_X0_9 : (Cond.fieldLink RX0 9 "GappedStore" "keys" "[J") ∈ TB := tb_r 16 (by decide +kernel) (by decide +kernel)
theorem tfl_X0_21 : (Cond.fieldLink RX0 21 "GappedStore" "values" "[J") ∈ TB := tb_r 17 (by decide +kernel) (by decide +kernel)
theorem tfl_X0_24 : (Cond.fieldLink RX0 24 "GappedStore" "blocks" "[I") ∈ TB := tb_r 18 (by decide +kernel) (by decide +kernel)
theorem tfl_X0_28 : (Cond.fieldLink RX0 28 "GappedStore" "leastLevels" "I") ∈ TB := tb_r 19 (by decide +kernel) (by decide +kernel)
theorem tfl_X0_32 : (Cond.fieldLink RX0 32 "GappedStore" "levels" "I") ∈ TB := tb_r 20 (by decide +kernel) (by decide +kernel)
theorem tfl_X0_35 : (Cond.fieldLink RX0 35 "GappedStore" "latestHeight" "I") ∈ TB := tb_r 21 (by decide +kernel) (by decide +kernel)
theorem tfl_X0_38 : (Cond.fieldLink RX0 38 "GappedStore" "movedKeys" "J") ∈ TB := tb_r 22 (by decide +kernel) (by decide +kernel)
theorem tar_long : (Cond.arrayClass .long) ∈ TB := tb_r 38 (by decide +kernel) (by decide +kernel)
theorem tar_int : (Cond.arrayClass .int) ∈ TB := tb_r 39 (by decide +kernel) (by decide +kernel)
theorem tml_L_23 : (Cond.methodLink RL 23 yX0_put) ∈ TB := tb_r 40 (by decide +kernel) (by decide +kernel)
theorem tim_yX0_put : (Cond.instanceMethod yX0_put) ∈ TB := tb_r 41 (by decide +kernel) (by decide +kernel)
theorem tse_yX0_put : (Cond.selects RX0 yX0_put yX0_put) ∈ TB := tb_r 42 (by decide +kernel) (by decide +kernel)
theorem tco_yX0_put : (Cond.code yX0_put cX0_put 6 (some .int)) ∈ TB := tb_r 43 (by decide +kernel) (by decide +kernel)
theorem tml_X0_42 : (Cond.methodLink RX0 42 yX0_cellOf) ∈ TB := tb_r 44 (by decide +kernel) (by decide +kernel)
theorem tim_yX0_cellOf : (Cond.instanceMethod yX0_cellOf) ∈ TB := tb_r 46 (by decide +kernel) (by decide +kernel)
theorem tco_yX0_cellOf : (Cond.code yX0_cellOf cX0_cellOf 4 (some .int)) ∈ TB := tb_r 47 (by decide +kernel) (by decide +kernel)
theorem tml_X0_58 : (Cond.methodLink RX0 58 yX0_cellNotBelow) ∈ TB := tb_r 48 (by decide +kernel) (by decide +kernel)
theorem tim_yX0_cellNotBelow : (Cond.instanceMethod yX0_cellNotBelow) ∈ TB := tb_r 50 (by decide +kernel) (by decide +kernel)
theorem tco_yX0_cellNotBelow : (Cond.code yX0_cellNotBelow cX0_cellNotBelow 5 (some .int)) ∈ TB := tb_r 51 (by decide +kernel) (by decide +kernel)
theorem tml_X0_87 : (Cond.methodLink RX0 87 yX0_seek) ∈ TB := tb_r 52 (by decide +kernel) (by decide +kernel)
theorem tim_yX0_seek : (Cond.instanceMethod yX0_seek) ∈ TB := tb_r 54 (by decide +kernel) (by decide +kernel)
theorem tco_yX0_seek : (Cond.code yX0_seek cX0_seek 8 (some .int)) ∈ TB := tb_r 55 (by decide +kernel) (by decide +kernel)
theorem tml_X0_83 : (Cond.methodLink RX0 83 yX0_borneBy) ∈ TB := tb_r 56 (by decide +kernel) (by decide +kernel)
theorem tim_yX0_borneBy : (Cond.instanceMethod yX0_borneBy) ∈ TB := tb_r 58 (by decide +kernel) (by decide +kernel)
theorem tco_yX0_borneBy : (Cond.code yX0_borneBy cX0_borneBy 4 (some .long)) ∈ TB := tb_r 59 (by decide +kernel) (by decide +kernel)
theorem tml_X0_93 : (Cond.methodLink RX0 93 yX0_depthOf) ∈ TB := tb_r 60 (by decide +kernel) (by decide +kernel)
theorem tst_yX0_depthOf : (Cond.static yX0_depthOf) ∈ TB := tb_r 61 (by decide +kernel) (by decide +kernel)
theorem tco_yX0_depthOf : (Cond.code yX0_depthOf cX0_depthOf 3 (some .int)) ∈ TB := tb_r 62 (by decide +kernel) (by decide +kernel)
theorem tml_X0_77 : (Cond.methodLink RX0 77 yX0_segments) ∈ TB := tb_r 63 (by decide +kernel) (by decide +kernel)
theorem tim_yX0_segments : (Cond.instanceMethod yX0_segments) ∈ TB := tb_r 65 (by decide +kernel) (by decide +kernel)
theorem tco_yX0_segments : (Cond.code yX0_segments cX0_segments 1 (some .int)) ∈ TB := tb_r 66 (by decide +kernel) (by decide +kernel)
theorem tml_X0_73 : (Cond.methodLink RX0 73 yX0_windowCells) ∈ TB := tb_r 67 (by decide +kernel) (by decide +kernel)
theorem tst_yX0_windowCells : (Cond.static yX0_windowCells) ∈ TB := tb_r 68 (by decide +kernel) (by decide +kernel)
theorem tco_yX0_windowCells : (Cond.code yX0_windowCells cX0_windowCells 1 (some .int)) ∈ TB := tb_r 69 (by decide +kernel) (by decide +kernel)
theorem tml_X0_96 : (Cond.methodLink RX0 96 yX0_greatestKey) ∈ TB := tb_r 70 (by decide +kernel) (by decide +kernel)
theorem tim_yX0_greatestKey : (Cond.instanceMethod yX0_greatestKey) ∈ TB := tb_r 72 (by decide +kernel) (by decide +kernel)
theorem tco_yX0_greatestKey : (Cond.code yX0_greatestKey cX0_greatestKey 4 (some .long)) ∈ TB := tb_r 73 (by decide +kernel) (by decide +kernel)
theorem tml_X0_46 : (Cond.methodLink RX0 46 yX0_putNew) ∈ TB := tb_r 74 (by decide +kernel) (by decide +kernel)
theorem tim_yX0_putNew : (Cond.instanceMethod yX0_putNew) ∈ TB := tb_r 76 (by decide +kernel) (by decide +kernel)
theorem tco_yX0_putNew : (Cond.code yX0_putNew cX0_putNew 9 (some .boolean)) ∈ TB := tb_r 77 (by decide +kernel) (by decide +kernel)
theorem tml_X0_115 : (Cond.methodLink RX0 115 yX0_heightWithRoom) ∈ TB := tb_r 78 (by decide +kernel) (by decide +kernel)
theorem tim_yX0_heightWithRoom : (Cond.instanceMethod yX0_heightWithRoom) ∈ TB := tb_r 80 (by decide +kernel) (by decide +kernel)
theorem tco_yX0_heightWithRoom : (Cond.code yX0_heightWithRoom cX0_heightWithRoom 3 (some .int)) ∈ TB := tb_r 81 (by decide +kernel) (by decide +kernel)
theorem tml_X0_106 : (Cond.methodLink RX0 106 yX0_keysInWindow) ∈ TB := tb_r 82 (by decide +kernel) (by decide +kernel)
theorem tim_yX0_keysInWindow : (Cond.instanceMethod yX0_keysInWindow) ∈ TB := tb_r 84 (by decide +kernel) (by decide +kernel)
theorem tco_yX0_keysInWindow : (Cond.code yX0_keysInWindow cX0_keysInWindow 3 (some .int)) ∈ TB := tb_r 85 (by decide +kernel) (by decide +kernel)
theorem tml_X0_103 : (Cond.methodLink RX0 103 yX0_firstCell) ∈ TB := tb_r 86 (by decide +kernel) (by decide +kernel)
theorem tst_yX0_firstCell : (Cond.static yX0_firstCell) ∈ TB := tb_r 87 (by decide +kernel) (by decide +kernel)
theorem tco_yX0_firstCell : (Cond.code yX0_firstCell cX0_firstCell 2 (some .int)) ∈ TB := tb_r 88 (by decide +kernel) (by decide +kernel)
theorem tml_X0_69 : (Cond.methodLink RX0 69 yX0_keysAmong) ∈ TB := tb_r 89 (by decide +kernel) (by decide +kernel)
theorem tim_yX0_keysAmong : (Cond.instanceMethod yX0_keysAmong) ∈ TB := tb_r 91 (by decide +kernel) (by decide +kernel)
theorem tco_yX0_keysAmong : (Cond.code yX0_keysAmong cX0_keysAmong 5 (some .int)) ∈ TB := tb_r 92 (by decide +kernel) (by decide +kernel)
theorem tml_X0_109 : (Cond.methodLink RX0 109 yX0_mostKeys) ∈ TB := tb_r 93 (by decide +kernel) (by decide +kernel)
theorem tim_yX0_mostKeys : (Cond.instanceMethod yX0_mostKeys) ∈ TB := tb_r 95 (by decide +kernel) (by decide +kernel)
theorem tco_yX0_mostKeys : (Cond.code yX0_mostKeys cX0_mostKeys 2 (some .int)) ∈ TB := tb_r 96 (by decide +kernel) (by decide +kernel)
theorem tml_X0_61 : (Cond.methodLink RX0 61 yX0_cells) ∈ TB := tb_r 97 (by decide +kernel) (by decide +kernel)
theorem tim_yX0_cells : (Cond.instanceMethod yX0_cells) ∈ TB := tb_r 98 (by decide +kernel) (by decide +kernel)
theorem tse_yX0_cells : (Cond.selects RX0 yX0_cells yX0_cells) ∈ TB := tb_r 99 (by decide +kernel) (by decide +kernel)
theorem tco_yX0_cells : (Cond.code yX0_cells cX0_cells 1 (some .int)) ∈ TB := tb_r 100 (by decide +kernel) (by decide +kernel)
theorem tml_X0_118 : (Cond.methodLink RX0 118 yX0_pack) ∈ TB := tb_r 101 (by decide +kernel) (by decide +kernel)
theorem tim_yX0_pack : (Cond.instanceMethod yX0_pack) ∈ TB := tb_r 103 (by decide +kernel) (by decide +kernel)
theorem tco_yX0_pack : (Cond.code yX0_pack cX0_pack 5 (some .int)) ∈ TB := tb_r 104 (by decide +kernel) (by decide +kernel)
theorem tml_X0_138 : (Cond.methodLink RX0 138 yX0_shift) ∈ TB := tb_r 105 (by decide +kernel) (by decide +kernel)
theorem tim_yX0_shift : (Cond.instanceMethod yX0_shift) ∈ TB := tb_r 107 (by decide +kernel) (by decide +kernel)
theorem tco_yX0_shift : (Cond.code yX0_shift cX0_shift 3 none) ∈ TB := tb_r 108 (by decide +kernel) (by decide +kernel)
theorem tml_X0_129 : (Cond.methodLink RX0 129 yX0_clear) ∈ TB := tb_r 109 (by decide +kernel) (by decide +kernel)
theorem tim_yX0_clear : (Cond.instanceMethod yX0_clear) ∈ TB := tb_r 111 (by decide +kernel) (by decide +kernel)
theorem tco_yX0_clear : (Cond.code yX0_clear cX0_clear 2 none) ∈ TB := tb_r 112 (by decide +kernel) (by decide +kernel)
theorem tml_X0_121 : (Cond.methodLink RX0 121 yX0_insertPacked) ∈ TB := tb_r 113 (by decide +kernel) (by decide +kernel)
theorem tim_yX0_insertPacked : (Cond.instanceMethod yX0_insertPacked) ∈ TB := tb_r 115 (by decide +kernel) (by decide +kernel)
theorem tco_yX0_insertPacked : (Cond.code yX0_insertPacked cX0_insertPacked 8 none) ∈ TB := tb_r 116 (by decide +kernel) (by decide +kernel)
theorem tml_X0_125 : (Cond.methodLink RX0 125 yX0_spreadPacked) ∈ TB := tb_r 117 (by decide +kernel) (by decide +kernel)
theorem tim_yX0_spreadPacked : (Cond.instanceMethod yX0_spreadPacked) ∈ TB := tb_r 119 (by decide +kernel) (by decide +kernel)
theorem tco_yX0_spreadPacked : (Cond.code yX0_spreadPacked cX0_spreadPacked 5 none) ∈ TB := tb_r 120 (by decide +kernel) (by decide +kernel)
theorem tml_L_28 : (Cond.methodLink RL 28 yX0_fill) ∈ TB := tb_r 121 (by decide +kernel) (by decide +kernel)
theorem tim_yX0_fill : (Cond.instanceMethod yX0_fill) ∈ TB := tb_r 122 (by decide +kernel) (by decide +kernel)
theorem tse_yX0_fill : (Cond.selects RX0 yX0_fill yX0_fill) ∈ TB := tb_r 123 (by decide +kernel) (by decide +kernel)
theorem tco_yX0_fill : (Cond.code yX0_fill cX0_fill 9 (some .int)) ∈ TB := tb_r 124 (by decide +kernel) (by decide +kernel)
theorem tml_X0_50 : (Cond.methodLink RX0 50 yX0_put) ∈ TB := tb_r 125 (by decide +kernel) (by decide +kernel)
theorem tml_L_33 : (Cond.methodLink RL 33 yX0_remove) ∈ TB := tb_r 126 (by decide +kernel) (by decide +kernel)
theorem tim_yX0_remove : (Cond.instanceMethod yX0_remove) ∈ TB := tb_r 127 (by decide +kernel) (by decide +kernel)
theorem tse_yX0_remove : (Cond.selects RX0 yX0_remove yX0_remove) ∈ TB := tb_r 128 (by decide +kernel) (by decide +kernel)
theorem tco_yX0_remove : (Cond.code yX0_remove cX0_remove 4 (some .boolean)) ∈ TB := tb_r 129 (by decide +kernel) (by decide +kernel)
theorem tml_X0_54 : (Cond.methodLink RX0 54 yX0_takeOut) ∈ TB := tb_r 130 (by decide +kernel) (by decide +kernel)
theorem tim_yX0_takeOut : (Cond.instanceMethod yX0_takeOut) ∈ TB := tb_r 132 (by decide +kernel) (by decide +kernel)
theorem tco_yX0_takeOut : (Cond.code yX0_takeOut cX0_takeOut 5 none) ∈ TB := tb_r 133 (by decide +kernel) (by decide +kernel)
theorem tml_X0_132 : (Cond.methodLink RX0 132 yX0_heightWithEnough) ∈ TB := tb_r 134 (by decide +kernel) (by decide +kernel)
theorem tim_yX0_heightWithEnough : (Cond.instanceMethod yX0_heightWithEnough) ∈ TB := tb_r 136 (by decide +kernel) (by decide +kernel)
theorem tco_yX0_heightWithEnough : (Cond.code yX0_heightWithEnough cX0_heightWithEnough 3 (some .int)) ∈ TB := tb_r 137 (by decide +kernel) (by decide +kernel)
theorem tml_X0_112 : (Cond.methodLink RX0 112 yX0_fewestKeys) ∈ TB := tb_r 138 (by decide +kernel) (by decide +kernel)
theorem tim_yX0_fewestKeys : (Cond.instanceMethod yX0_fewestKeys) ∈ TB := tb_r 140 (by decide +kernel) (by decide +kernel)
theorem tco_yX0_fewestKeys : (Cond.code yX0_fewestKeys cX0_fewestKeys 3 (some .int)) ∈ TB := tb_r 141 (by decide +kernel) (by decide +kernel)
theorem tml_X0_135 : (Cond.methodLink RX0 135 yX0_halve) ∈ TB := tb_r 142 (by decide +kernel) (by decide +kernel)
theorem tim_yX0_halve : (Cond.instanceMethod yX0_halve) ∈ TB := tb_r 144 (by decide +kernel) (by decide +kernel)
theorem tco_yX0_halve : (Cond.code yX0_halve cX0_halve 2 none) ∈ TB := tb_r 145 (by decide +kernel) (by decide +kernel)
theorem tml_L_38 : (Cond.methodLink RL 38 yX0_drop) ∈ TB := tb_r 146 (by decide +kernel) (by decide +kernel)
theorem tim_yX0_drop : (Cond.instanceMethod yX0_drop) ∈ TB := tb_r 147 (by decide +kernel) (by decide +kernel)
theorem tse_yX0_drop : (Cond.selects RX0 yX0_drop yX0_drop) ∈ TB := tb_r 148 (by decide +kernel) (by decide +kernel)
theorem tco_yX0_drop : (Cond.code yX0_drop cX0_drop 6 (some .int)) ∈ TB := tb_r 149 (by decide +kernel) (by decide +kernel)
theorem tml_L_43 : (Cond.methodLink RL 43 yX0_has) ∈ TB := tb_r 150 (by decide +kernel) (by decide +kernel)
theorem tim_yX0_has : (Cond.instanceMethod yX0_has) ∈ TB := tb_r 151 (by decide +kernel) (by decide +kernel)
theorem tse_yX0_has : (Cond.selects RX0 yX0_has yX0_has) ∈ TB := tb_r 152 (by decide +kernel) (by decide +kernel)
theorem tco_yX0_has : (Cond.code yX0_has cX0_has 3 (some .boolean)) ∈ TB := tb_r 153 (by decide +kernel) (by decide +kernel)
theorem tml_L_47 : (Cond.methodLink RL 47 yX0_get) ∈ TB := tb_r 154 (by decide +kernel) (by decide +kernel)
theorem tim_yX0_get : (Cond.instanceMethod yX0_get) ∈ TB := tb_r 155 (by decide +kernel) (by decide +kernel)
theorem tse_yX0_get : (Cond.selects RX0 yX0_get yX0_get) ∈ TB := tb_r 156 (by decide +kernel) (by decide +kernel)
theorem tco_yX0_get : (Cond.code yX0_get cX0_get 4 (some .long)) ∈ TB := tb_r 157 (by decide +kernel) (by decide +kernel)
theorem tml_L_52 : (Cond.methodLink RL 52 yX0_floor) ∈ TB := tb_r 158 (by decide +kernel) (by decide +kernel)
theorem tim_yX0_floor : (Cond.instanceMethod yX0_floor) ∈ TB := tb_r 159 (by decide +kernel) (by decide +kernel)
theorem tse_yX0_floor : (Cond.selects RX0 yX0_floor yX0_floor) ∈ TB := tb_r 160 (by decide +kernel) (by decide +kernel)
theorem tco_yX0_floor : (Cond.code yX0_floor cX0_floor 4 (some .long)) ∈ TB := tb_r 161 (by decide +kernel) (by decide +kernel)
theorem tml_L_56 : (Cond.methodLink RL 56 yX0_ceiling) ∈ TB := tb_r 162 (by decide +kernel) (by decide +kernel)
theorem tim_yX0_ceiling : (Cond.instanceMethod yX0_ceiling) ∈ TB := tb_r 163 (by decide +kernel) (by decide +kernel)
theorem tse_yX0_ceiling : (Cond.selects RX0 yX0_ceiling yX0_ceiling) ∈ TB := tb_r 164 (by decide +kernel) (by decide +kernel)
theorem tco_yX0_ceiling : (Cond.code yX0_ceiling cX0_ceiling 4 (some .long)) ∈ TB := tb_r 165 (by decide +kernel) (by decide +kernel)
theorem tml_L_60 : (Cond.methodLink RL 60 yX0_select) ∈ TB := tb_r 166 (by decide +kernel) (by decide +kernel)
theorem tim_yX0_select : (Cond.instanceMethod yX0_select) ∈ TB := tb_r 167 (by decide +kernel) (by decide +kernel)
theorem tse_yX0_select : (Cond.selects RX0 yX0_select yX0_select) ∈ TB := tb_r 168 (by decide +kernel) (by decide +kernel)
theorem tco_yX0_select : (Cond.code yX0_select cX0_select 4 (some .long)) ∈ TB := tb_r 169 (by decide +kernel) (by decide +kernel)
theorem tml_L_65 : (Cond.methodLink RL 65 yX0_count) ∈ TB := tb_r 170 (by decide +kernel) (by decide +kernel)
theorem tim_yX0_count : (Cond.instanceMethod yX0_count) ∈ TB := tb_r 171 (by decide +kernel) (by decide +kernel)
theorem tse_yX0_count : (Cond.selects RX0 yX0_count yX0_count) ∈ TB := tb_r 172 (by decide +kernel) (by decide +kernel)
theorem tco_yX0_count : (Cond.code yX0_count cX0_count 7 (some .int)) ∈ TB := tb_r 173 (by decide +kernel) (by decide +kernel)
theorem tml_X0_65 : (Cond.methodLink RX0 65 yX0_isHeldBetween) ∈ TB := tb_r 174 (by decide +kernel) (by decide +kernel)
theorem tim_yX0_isHeldBetween : (Cond.instanceMethod yX0_isHeldBetween) ∈ TB := tb_r 176 (by decide +kernel) (by decide +kernel)
theorem tco_yX0_isHeldBetween : (Cond.code yX0_isHeldBetween cX0_isHeldBetween 8 (some .boolean)) ∈ TB := tb_r 177 (by decide +kernel) (by decide +kernel)
theorem tml_L_69 : (Cond.methodLink RL 69 yX0_sum) ∈ TB := tb_r 178 (by decide +kernel) (by decide +kernel)
theorem tim_yX0_sum : (Cond.instanceMethod yX0_sum) ∈ TB := tb_r 179 (by decide +kernel) (by decide +kernel)
theorem tse_yX0_sum : (Cond.selects RX0 yX0_sum yX0_sum) ∈ TB := tb_r 180 (by decide +kernel) (by decide +kernel)
theorem tco_yX0_sum : (Cond.code yX0_sum cX0_sum 8 (some .long)) ∈ TB := tb_r 181 (by decide +kernel) (by decide +kernel)
theorem tml_L_74 : (Cond.methodLink RL 74 yX0_size) ∈ TB := tb_r 182 (by decide +kernel) (by decide +kernel)
theorem tim_yX0_size : (Cond.instanceMethod yX0_size) ∈ TB := tb_r 183 (by decide +kernel) (by decide +kernel)
theorem tse_yX0_size : (Cond.selects RX0 yX0_size yX0_size) ∈ TB := tb_r 184 (by decide +kernel) (by decide +kernel)
theorem tco_yX0_size : (Cond.code yX0_size cX0_size 1 (some .int)) ∈ TB := tb_r 185 (by decide +kernel) (by decide +kernel)
theorem tml_L_79 : (Cond.methodLink RL 79 yX0_cells) ∈ TB := tb_r 186 (by decide +kernel) (by decide +kernel)
theorem tml_L_83 : (Cond.methodLink RL 83 yX0_cellKey) ∈ TB := tb_r 187 (by decide +kernel) (by decide +kernel)
theorem tim_yX0_cellKey : (Cond.instanceMethod yX0_cellKey) ∈ TB := tb_r 188 (by decide +kernel) (by decide +kernel)
theorem tse_yX0_cellKey : (Cond.selects RX0 yX0_cellKey yX0_cellKey) ∈ TB := tb_r 189 (by decide +kernel) (by decide +kernel)
theorem tco_yX0_cellKey : (Cond.code yX0_cellKey cX0_cellKey 2 (some .long)) ∈ TB := tb_r 190 (by decide +kernel) (by decide +kernel)
theorem tml_L_87 : (Cond.methodLink RL 87 yX0_place) ∈ TB := tb_r 191 (by decide +kernel) (by decide +kernel)
theorem tim_yX0_place : (Cond.instanceMethod yX0_place) ∈ TB := tb_r 192 (by decide +kernel) (by decide +kernel)
theorem tse_yX0_place : (Cond.selects RX0 yX0_place yX0_place) ∈ TB := tb_r 193 (by decide +kernel) (by decide +kernel)
theorem tco_yX0_place : (Cond.code yX0_place cX0_place 2 (some .int)) ∈ TB := tb_r 194 (by decide +kernel) (by decide +kernel)
theorem tml_X0_80 : (Cond.methodLink RX0 80 yX0_placeInTree) ∈ TB := tb_r 195 (by decide +kernel) (by decide +kernel)
theorem tst_yX0_placeInTree : (Cond.static yX0_placeInTree) ∈ TB := tb_r 196 (by decide +kernel) (by decide +kernel)
theorem tco_yX0_placeInTree : (Cond.code yX0_placeInTree cX0_placeInTree 7 (some .int)) ∈ TB := tb_r 197 (by decide +kernel) (by decide +kernel)
theorem tml_X0_100 : (Cond.methodLink RX0 100 yX0_nodesOfTree) ∈ TB := tb_r 198 (by decide +kernel) (by decide +kernel)
theorem tst_yX0_nodesOfTree : (Cond.static yX0_nodesOfTree) ∈ TB := tb_r 199 (by decide +kernel) (by decide +kernel)
theorem tco_yX0_nodesOfTree : (Cond.code yX0_nodesOfTree cX0_nodesOfTree 1 (some .int)) ∈ TB := tb_r 200 (by decide +kernel) (by decide +kernel)
theorem tml_L_92 : (Cond.methodLink RL 92 yX0_borne) ∈ TB := tb_r 201 (by decide +kernel) (by decide +kernel)
theorem tim_yX0_borne : (Cond.instanceMethod yX0_borne) ∈ TB := tb_r 202 (by decide +kernel) (by decide +kernel)
theorem tse_yX0_borne : (Cond.selects RX0 yX0_borne yX0_borne) ∈ TB := tb_r 203 (by decide +kernel) (by decide +kernel)
theorem tco_yX0_borne : (Cond.code yX0_borne cX0_borne 3 (some .long)) ∈ TB := tb_r 204 (by decide +kernel) (by decide +kernel)
theorem tml_L_96 : (Cond.methodLink RL 96 yX0_touched) ∈ TB := tb_r 205 (by decide +kernel) (by decide +kernel)
theorem tim_yX0_touched : (Cond.instanceMethod yX0_touched) ∈ TB := tb_r 206 (by decide +kernel) (by decide +kernel)
theorem tse_yX0_touched : (Cond.selects RX0 yX0_touched yX0_touched) ∈ TB := tb_r 207 (by decide +kernel) (by decide +kernel)
theorem tco_yX0_touched : (Cond.code yX0_touched cX0_touched 8 (some .int)) ∈ TB := tb_r 208 (by decide +kernel) (by decide +kernel)
theorem tml_X0_90 : (Cond.methodLink RX0 90 yX0_noteBlock) ∈ TB := tb_r 209 (by decide +kernel) (by decide +kernel)
theorem tim_yX0_noteBlock : (Cond.instanceMethod yX0_noteBlock) ∈ TB := tb_r 211 (by decide +kernel) (by decide +kernel)
theorem tco_yX0_noteBlock : (Cond.code yX0_noteBlock cX0_noteBlock 4 (some .int)) ∈ TB := tb_r 212 (by decide +kernel) (by decide +kernel)
theorem tml_L_100 : (Cond.methodLink RL 100 yX0_window) ∈ TB := tb_r 213 (by decide +kernel) (by decide +kernel)
theorem tim_yX0_window : (Cond.instanceMethod yX0_window) ∈ TB := tb_r 214 (by decide +kernel) (by decide +kernel)
theorem tse_yX0_window : (Cond.selects RX0 yX0_window yX0_window) ∈ TB := tb_r 215 (by decide +kernel) (by decide +kernel)
theorem tco_yX0_window : (Cond.code yX0_window cX0_window 1 (some .int)) ∈ TB := tb_r 216 (by decide +kernel) (by decide +kernel)
theorem tml_L_104 : (Cond.methodLink RL 104 yX0_moved) ∈ TB := tb_r 217 (by decide +kernel) (by decide +kernel)
theorem tim_yX0_moved : (Cond.instanceMethod yX0_moved) ∈ TB := tb_r 218 (by decide +kernel) (by decide +kernel)
theorem tse_yX0_moved : (Cond.selects RX0 yX0_moved yX0_moved) ∈ TB := tb_r 219 (by decide +kernel) (by decide +kernel)
theorem tco_yX0_moved : (Cond.code yX0_moved cX0_moved 1 (some .long)) ∈ TB := tb_r 220 (by decide +kernel) (by decide +kernel)
theorem tml_L_9 : (Cond.methodLink RL 9 yL_cell) ∈ TB := tb_r 221 (by decide +kernel) (by decide +kernel)
theorem tst_yL_cell : (Cond.static yL_cell) ∈ TB := tb_r 222 (by decide +kernel) (by decide +kernel)
theorem tco_yL_cell : (Cond.code yL_cell cL_cell 2 (some .int)) ∈ TB := tb_r 223 (by decide +kernel) (by decide +kernel)
theorem tcl_L_18 : (Cond.classLink RL 18 RX1) ∈ TB := tb_r 224 (by decide +kernel) (by decide +kernel)
theorem tis_X1 : (Cond.instantiable RX1 10) ∈ TB := tb_r 225 (by decide +kernel) (by decide +kernel)
theorem tml_L_20 : (Cond.methodLink RL 20 yX1_init) ∈ TB := tb_r 226 (by decide +kernel) (by decide +kernel)
theorem tim_yX1_init : (Cond.instanceMethod yX1_init) ∈ TB := tb_r 227 (by decide +kernel) (by decide +kernel)
theorem tco_yX1_init : (Cond.code yX1_init cX1_init 2 none) ∈ TB := tb_r 228 (by decide +kernel) (by decide +kernel)
theorem tml_X1_1 : (Cond.methodLink RX1 1 objectInit) ∈ TB := tb_r 229 (by decide +kernel) (by decide +kernel)
theorem tfl_X1_30 : (Cond.fieldLink RX1 30 "GappedStoreModel" "least" "I") ∈ TB := tb_r 230 (by decide +kernel) (by decide +kernel)
theorem tfl_X1_33 : (Cond.fieldLink RX1 33 "GappedStoreModel" "cells" "I") ∈ TB := tb_r 231 (by decide +kernel) (by decide +kernel)
theorem tfl_X1_7 : (Cond.fieldLink RX1 7 "GappedStoreModel" "full" "[Z") ∈ TB := tb_r 232 (by decide +kernel) (by decide +kernel)
theorem tfl_X1_13 : (Cond.fieldLink RX1 13 "GappedStoreModel" "keys" "[J") ∈ TB := tb_r 233 (by decide +kernel) (by decide +kernel)
theorem tfl_X1_17 : (Cond.fieldLink RX1 17 "GappedStoreModel" "values" "[J") ∈ TB := tb_r 234 (by decide +kernel) (by decide +kernel)
theorem tfl_X1_20 : (Cond.fieldLink RX1 20 "GappedStoreModel" "window" "I") ∈ TB := tb_r 235 (by decide +kernel) (by decide +kernel)
theorem tfl_X1_75 : (Cond.fieldLink RX1 75 "GappedStoreModel" "moved" "J") ∈ TB := tb_r 236 (by decide +kernel) (by decide +kernel)
theorem tfl_X1_72 : (Cond.fieldLink RX1 72 "GappedStoreModel" "waiting" "I") ∈ TB := tb_r 237 (by decide +kernel) (by decide +kernel)
theorem tfl_X1_24 : (Cond.fieldLink RX1 24 "GappedStoreModel" "waitKeys" "[J") ∈ TB := tb_r 238 (by decide +kernel) (by decide +kernel)
theorem tfl_X1_27 : (Cond.fieldLink RX1 27 "GappedStoreModel" "waitValues" "[J") ∈ TB := tb_r 239 (by decide +kernel) (by decide +kernel)
theorem tar_boolean : (Cond.arrayClass .boolean) ∈ TB := tb_r 261 (by decide +kernel) (by decide +kernel)
theorem tml_L_91 : (Cond.methodLink RL 91 yX1_place) ∈ TB := tb_r 262 (by decide +kernel) (by decide +kernel)
theorem tim_yX1_place : (Cond.instanceMethod yX1_place) ∈ TB := tb_r 263 (by decide +kernel) (by decide +kernel)
theorem tse_yX1_place : (Cond.selects RX1 yX1_place yX1_place) ∈ TB := tb_r 264 (by decide +kernel) (by decide +kernel)
theorem tco_yX1_place : (Cond.code yX1_place cX1_place 2 (some .int)) ∈ TB := tb_r 265 (by decide +kernel) (by decide +kernel)
theorem tml_X1_61 : (Cond.methodLink RX1 61 yX1_isNode) ∈ TB := tb_r 266 (by decide +kernel) (by decide +kernel)
theorem tim_yX1_isNode : (Cond.instanceMethod yX1_isNode) ∈ TB := tb_r 268 (by decide +kernel) (by decide +kernel)
theorem tco_yX1_isNode : (Cond.code yX1_isNode cX1_isNode 2 (some .boolean)) ∈ TB := tb_r 269 (by decide +kernel) (by decide +kernel)
theorem tml_X1_36 : (Cond.methodLink RX1 36 yX1_segments) ∈ TB := tb_r 270 (by decide +kernel) (by decide +kernel)
theorem tim_yX1_segments : (Cond.instanceMethod yX1_segments) ∈ TB := tb_r 272 (by decide +kernel) (by decide +kernel)
theorem tco_yX1_segments : (Cond.code yX1_segments cX1_segments 1 (some .int)) ∈ TB := tb_r 273 (by decide +kernel) (by decide +kernel)
theorem tml_X1_65 : (Cond.methodLink RX1 65 yX1_placeOf) ∈ TB := tb_r 274 (by decide +kernel) (by decide +kernel)
theorem tim_yX1_placeOf : (Cond.instanceMethod yX1_placeOf) ∈ TB := tb_r 276 (by decide +kernel) (by decide +kernel)
theorem tco_yX1_placeOf : (Cond.code yX1_placeOf cX1_placeOf 9 (some .int)) ∈ TB := tb_r 277 (by decide +kernel) (by decide +kernel)
theorem tml_X1_58 : (Cond.methodLink RX1 58 yX1_levels) ∈ TB := tb_r 278 (by decide +kernel) (by decide +kernel)
theorem tim_yX1_levels : (Cond.instanceMethod yX1_levels) ∈ TB := tb_r 280 (by decide +kernel) (by decide +kernel)
theorem tco_yX1_levels : (Cond.code yX1_levels cX1_levels 3 (some .int)) ∈ TB := tb_r 281 (by decide +kernel) (by decide +kernel)
theorem tml_X1_42 : (Cond.methodLink RX1 42 yX1_levelOf) ∈ TB := tb_r 282 (by decide +kernel) (by decide +kernel)
theorem tst_yX1_levelOf : (Cond.static yX1_levelOf) ∈ TB := tb_r 283 (by decide +kernel) (by decide +kernel)
theorem tco_yX1_levelOf : (Cond.code yX1_levelOf cX1_levelOf 3 (some .int)) ∈ TB := tb_r 284 (by decide +kernel) (by decide +kernel)
theorem tml_L_95 : (Cond.methodLink RL 95 yX1_borne) ∈ TB := tb_r 285 (by decide +kernel) (by decide +kernel)
theorem tim_yX1_borne : (Cond.instanceMethod yX1_borne) ∈ TB := tb_r 286 (by decide +kernel) (by decide +kernel)
theorem tse_yX1_borne : (Cond.selects RX1 yX1_borne yX1_borne) ∈ TB := tb_r 287 (by decide +kernel) (by decide +kernel)
theorem tco_yX1_borne : (Cond.code yX1_borne cX1_borne 5 (some .long)) ∈ TB := tb_r 288 (by decide +kernel) (by decide +kernel)
theorem tcn_X1_40 : (Cond.constantLong RX1 40 NOK) ∈ TB := tb_r 289 (by decide +kernel) (by decide +kernel)
theorem tml_X1_50 : (Cond.methodLink RX1 50 yX1_bears) ∈ TB := tb_r 290 (by decide +kernel) (by decide +kernel)
theorem tim_yX1_bears : (Cond.instanceMethod yX1_bears) ∈ TB := tb_r 292 (by decide +kernel) (by decide +kernel)
theorem tco_yX1_bears : (Cond.code yX1_bears cX1_bears 4 (some .long)) ∈ TB := tb_r 293 (by decide +kernel) (by decide +kernel)
theorem tml_X1_46 : (Cond.methodLink RX1 46 yX1_greatest) ∈ TB := tb_r 294 (by decide +kernel) (by decide +kernel)
theorem tim_yX1_greatest : (Cond.instanceMethod yX1_greatest) ∈ TB := tb_r 296 (by decide +kernel) (by decide +kernel)
theorem tco_yX1_greatest : (Cond.code yX1_greatest cX1_greatest 6 (some .long)) ∈ TB := tb_r 297 (by decide +kernel) (by decide +kernel)
theorem tml_L_99 : (Cond.methodLink RL 99 yX1_touched) ∈ TB := tb_r 298 (by decide +kernel) (by decide +kernel)
theorem tim_yX1_touched : (Cond.instanceMethod yX1_touched) ∈ TB := tb_r 299 (by decide +kernel) (by decide +kernel)
theorem tse_yX1_touched : (Cond.selects RX1 yX1_touched yX1_touched) ∈ TB := tb_r 300 (by decide +kernel) (by decide +kernel)
theorem tco_yX1_touched : (Cond.code yX1_touched cX1_touched 10 (some .int)) ∈ TB := tb_r 301 (by decide +kernel) (by decide +kernel)
theorem tml_X1_68 : (Cond.methodLink RX1 68 yX1_seek) ∈ TB := tb_r 302 (by decide +kernel) (by decide +kernel)
theorem tim_yX1_seek : (Cond.instanceMethod yX1_seek) ∈ TB := tb_r 304 (by decide +kernel) (by decide +kernel)
theorem tco_yX1_seek : (Cond.code yX1_seek cX1_seek 4 (some .int)) ∈ TB := tb_r 305 (by decide +kernel) (by decide +kernel)
theorem tml_X1_54 : (Cond.methodLink RX1 54 yX1_step) ∈ TB := tb_r 306 (by decide +kernel) (by decide +kernel)
theorem tim_yX1_step : (Cond.instanceMethod yX1_step) ∈ TB := tb_r 308 (by decide +kernel) (by decide +kernel)
theorem tco_yX1_step : (Cond.code yX1_step cX1_step 6 (some .int)) ∈ TB := tb_r 309 (by decide +kernel) (by decide +kernel)
theorem tml_L_27 : (Cond.methodLink RL 27 yX1_put) ∈ TB := tb_r 310 (by decide +kernel) (by decide +kernel)
theorem tim_yX1_put : (Cond.instanceMethod yX1_put) ∈ TB := tb_r 311 (by decide +kernel) (by decide +kernel)
theorem tse_yX1_put : (Cond.selects RX1 yX1_put yX1_put) ∈ TB := tb_r 312 (by decide +kernel) (by decide +kernel)
theorem tco_yX1_put : (Cond.code yX1_put cX1_put 10 (some .int)) ∈ TB := tb_r 313 (by decide +kernel) (by decide +kernel)
theorem tml_X1_79 : (Cond.methodLink RX1 79 yX1_cellOf) ∈ TB := tb_r 314 (by decide +kernel) (by decide +kernel)
theorem tim_yX1_cellOf : (Cond.instanceMethod yX1_cellOf) ∈ TB := tb_r 316 (by decide +kernel) (by decide +kernel)
theorem tco_yX1_cellOf : (Cond.code yX1_cellOf cX1_cellOf 5 (some .int)) ∈ TB := tb_r 317 (by decide +kernel) (by decide +kernel)
theorem tml_X1_82 : (Cond.methodLink RX1 82 yX1_firstOf) ∈ TB := tb_r 318 (by decide +kernel) (by decide +kernel)
theorem tst_yX1_firstOf : (Cond.static yX1_firstOf) ∈ TB := tb_r 319 (by decide +kernel) (by decide +kernel)
theorem tco_yX1_firstOf : (Cond.code yX1_firstOf cX1_firstOf 2 (some .int)) ∈ TB := tb_r 320 (by decide +kernel) (by decide +kernel)
theorem tml_X1_86 : (Cond.methodLink RX1 86 yX1_held) ∈ TB := tb_r 321 (by decide +kernel) (by decide +kernel)
theorem tim_yX1_held : (Cond.instanceMethod yX1_held) ∈ TB := tb_r 323 (by decide +kernel) (by decide +kernel)
theorem tco_yX1_held : (Cond.code yX1_held cX1_held 5 (some .int)) ∈ TB := tb_r 324 (by decide +kernel) (by decide +kernel)
theorem tml_X1_89 : (Cond.methodLink RX1 89 yX1_most) ∈ TB := tb_r 325 (by decide +kernel) (by decide +kernel)
theorem tim_yX1_most : (Cond.instanceMethod yX1_most) ∈ TB := tb_r 327 (by decide +kernel) (by decide +kernel)
theorem tco_yX1_most : (Cond.code yX1_most cX1_most 3 (some .int)) ∈ TB := tb_r 328 (by decide +kernel) (by decide +kernel)
theorem tml_X1_92 : (Cond.methodLink RX1 92 yX1_lift) ∈ TB := tb_r 329 (by decide +kernel) (by decide +kernel)
theorem tim_yX1_lift : (Cond.instanceMethod yX1_lift) ∈ TB := tb_r 331 (by decide +kernel) (by decide +kernel)
theorem tco_yX1_lift : (Cond.code yX1_lift cX1_lift 4 none) ∈ TB := tb_r 332 (by decide +kernel) (by decide +kernel)
theorem tml_X1_96 : (Cond.methodLink RX1 96 yX1_join) ∈ TB := tb_r 333 (by decide +kernel) (by decide +kernel)
theorem tim_yX1_join : (Cond.instanceMethod yX1_join) ∈ TB := tb_r 335 (by decide +kernel) (by decide +kernel)
theorem tco_yX1_join : (Cond.code yX1_join cX1_join 6 none) ∈ TB := tb_r 336 (by decide +kernel) (by decide +kernel)
theorem tml_X1_100 : (Cond.methodLink RX1 100 yX1_spread) ∈ TB := tb_r 337 (by decide +kernel) (by decide +kernel)
theorem tim_yX1_spread : (Cond.instanceMethod yX1_spread) ∈ TB := tb_r 339 (by decide +kernel) (by decide +kernel)
theorem tco_yX1_spread : (Cond.code yX1_spread cX1_spread 6 none) ∈ TB := tb_r 340 (by decide +kernel) (by decide +kernel)
theorem tml_L_32 : (Cond.methodLink RL 32 yX1_fill) ∈ TB := tb_r 341 (by decide +kernel) (by decide +kernel)
theorem tim_yX1_fill : (Cond.instanceMethod yX1_fill) ∈ TB := tb_r 342 (by decide +kernel) (by decide +kernel)
theorem tse_yX1_fill : (Cond.selects RX1 yX1_fill yX1_fill) ∈ TB := tb_r 343 (by decide +kernel) (by decide +kernel)
theorem tco_yX1_fill : (Cond.code yX1_fill cX1_fill 11 (some .int)) ∈ TB := tb_r 344 (by decide +kernel) (by decide +kernel)
theorem tml_X1_103 : (Cond.methodLink RX1 103 yX1_put) ∈ TB := tb_r 345 (by decide +kernel) (by decide +kernel)
theorem tml_L_37 : (Cond.methodLink RL 37 yX1_remove) ∈ TB := tb_r 346 (by decide +kernel) (by decide +kernel)
theorem tim_yX1_remove : (Cond.instanceMethod yX1_remove) ∈ TB := tb_r 347 (by decide +kernel) (by decide +kernel)
theorem tse_yX1_remove : (Cond.selects RX1 yX1_remove yX1_remove) ∈ TB := tb_r 348 (by decide +kernel) (by decide +kernel)
theorem tco_yX1_remove : (Cond.code yX1_remove cX1_remove 7 (some .boolean)) ∈ TB := tb_r 349 (by decide +kernel) (by decide +kernel)
theorem tml_X1_107 : (Cond.methodLink RX1 107 yX1_fewest) ∈ TB := tb_r 350 (by decide +kernel) (by decide +kernel)
theorem tim_yX1_fewest : (Cond.instanceMethod yX1_fewest) ∈ TB := tb_r 352 (by decide +kernel) (by decide +kernel)
theorem tco_yX1_fewest : (Cond.code yX1_fewest cX1_fewest 3 (some .int)) ∈ TB := tb_r 353 (by decide +kernel) (by decide +kernel)
theorem tml_L_42 : (Cond.methodLink RL 42 yX1_drop) ∈ TB := tb_r 354 (by decide +kernel) (by decide +kernel)
theorem tim_yX1_drop : (Cond.instanceMethod yX1_drop) ∈ TB := tb_r 355 (by decide +kernel) (by decide +kernel)
theorem tse_yX1_drop : (Cond.selects RX1 yX1_drop yX1_drop) ∈ TB := tb_r 356 (by decide +kernel) (by decide +kernel)
theorem tco_yX1_drop : (Cond.code yX1_drop cX1_drop 9 (some .int)) ∈ TB := tb_r 357 (by decide +kernel) (by decide +kernel)
theorem tml_X1_110 : (Cond.methodLink RX1 110 yX1_ceiling) ∈ TB := tb_r 358 (by decide +kernel) (by decide +kernel)
theorem tim_yX1_ceiling : (Cond.instanceMethod yX1_ceiling) ∈ TB := tb_r 359 (by decide +kernel) (by decide +kernel)
theorem tse_yX1_ceiling : (Cond.selects RX1 yX1_ceiling yX1_ceiling) ∈ TB := tb_r 360 (by decide +kernel) (by decide +kernel)
theorem tco_yX1_ceiling : (Cond.code yX1_ceiling cX1_ceiling 6 (some .long)) ∈ TB := tb_r 361 (by decide +kernel) (by decide +kernel)
theorem tml_X1_114 : (Cond.methodLink RX1 114 yX1_remove) ∈ TB := tb_r 362 (by decide +kernel) (by decide +kernel)
theorem tml_L_46 : (Cond.methodLink RL 46 yX1_has) ∈ TB := tb_r 363 (by decide +kernel) (by decide +kernel)
theorem tim_yX1_has : (Cond.instanceMethod yX1_has) ∈ TB := tb_r 364 (by decide +kernel) (by decide +kernel)
theorem tse_yX1_has : (Cond.selects RX1 yX1_has yX1_has) ∈ TB := tb_r 365 (by decide +kernel) (by decide +kernel)
theorem tco_yX1_has : (Cond.code yX1_has cX1_has 3 (some .boolean)) ∈ TB := tb_r 366 (by decide +kernel) (by decide +kernel)
theorem tml_L_51 : (Cond.methodLink RL 51 yX1_get) ∈ TB := tb_r 367 (by decide +kernel) (by decide +kernel)
theorem tim_yX1_get : (Cond.instanceMethod yX1_get) ∈ TB := tb_r 368 (by decide +kernel) (by decide +kernel)
theorem tse_yX1_get : (Cond.selects RX1 yX1_get yX1_get) ∈ TB := tb_r 369 (by decide +kernel) (by decide +kernel)
theorem tco_yX1_get : (Cond.code yX1_get cX1_get 4 (some .long)) ∈ TB := tb_r 370 (by decide +kernel) (by decide +kernel)
theorem tml_L_55 : (Cond.methodLink RL 55 yX1_floor) ∈ TB := tb_r 371 (by decide +kernel) (by decide +kernel)
theorem tim_yX1_floor : (Cond.instanceMethod yX1_floor) ∈ TB := tb_r 372 (by decide +kernel) (by decide +kernel)
theorem tse_yX1_floor : (Cond.selects RX1 yX1_floor yX1_floor) ∈ TB := tb_r 373 (by decide +kernel) (by decide +kernel)
theorem tco_yX1_floor : (Cond.code yX1_floor cX1_floor 6 (some .long)) ∈ TB := tb_r 374 (by decide +kernel) (by decide +kernel)
theorem tml_L_59 : (Cond.methodLink RL 59 yX1_ceiling) ∈ TB := tb_r 375 (by decide +kernel) (by decide +kernel)
theorem tml_L_64 : (Cond.methodLink RL 64 yX1_select) ∈ TB := tb_r 376 (by decide +kernel) (by decide +kernel)
theorem tim_yX1_select : (Cond.instanceMethod yX1_select) ∈ TB := tb_r 377 (by decide +kernel) (by decide +kernel)
theorem tse_yX1_select : (Cond.selects RX1 yX1_select yX1_select) ∈ TB := tb_r 378 (by decide +kernel) (by decide +kernel)
theorem tco_yX1_select : (Cond.code yX1_select cX1_select 6 (some .long)) ∈ TB := tb_r 379 (by decide +kernel) (by decide +kernel)
theorem tml_L_68 : (Cond.methodLink RL 68 yX1_count) ∈ TB := tb_r 380 (by decide +kernel) (by decide +kernel)
theorem tim_yX1_count : (Cond.instanceMethod yX1_count) ∈ TB := tb_r 381 (by decide +kernel) (by decide +kernel)
theorem tse_yX1_count : (Cond.selects RX1 yX1_count yX1_count) ∈ TB := tb_r 382 (by decide +kernel) (by decide +kernel)
theorem tco_yX1_count : (Cond.code yX1_count cX1_count 7 (some .int)) ∈ TB := tb_r 383 (by decide +kernel) (by decide +kernel)
theorem tml_L_73 : (Cond.methodLink RL 73 yX1_sum) ∈ TB := tb_r 384 (by decide +kernel) (by decide +kernel)
theorem tim_yX1_sum : (Cond.instanceMethod yX1_sum) ∈ TB := tb_r 385 (by decide +kernel) (by decide +kernel)
theorem tse_yX1_sum : (Cond.selects RX1 yX1_sum yX1_sum) ∈ TB := tb_r 386 (by decide +kernel) (by decide +kernel)
theorem tco_yX1_sum : (Cond.code yX1_sum cX1_sum 8 (some .long)) ∈ TB := tb_r 387 (by decide +kernel) (by decide +kernel)
theorem tml_L_78 : (Cond.methodLink RL 78 yX1_size) ∈ TB := tb_r 388 (by decide +kernel) (by decide +kernel)
theorem tim_yX1_size : (Cond.instanceMethod yX1_size) ∈ TB := tb_r 389 (by decide +kernel) (by decide +kernel)
theorem tse_yX1_size : (Cond.selects RX1 yX1_size yX1_size) ∈ TB := tb_r 390 (by decide +kernel) (by decide +kernel)
theorem tco_yX1_size : (Cond.code yX1_size cX1_size 1 (some .int)) ∈ TB := tb_r 391 (by decide +kernel) (by decide +kernel)
theorem tml_L_82 : (Cond.methodLink RL 82 yX1_cells) ∈ TB := tb_r 392 (by decide +kernel) (by decide +kernel)
theorem tim_yX1_cells : (Cond.instanceMethod yX1_cells) ∈ TB := tb_r 393 (by decide +kernel) (by decide +kernel)
theorem tse_yX1_cells : (Cond.selects RX1 yX1_cells yX1_cells) ∈ TB := tb_r 394 (by decide +kernel) (by decide +kernel)
theorem tco_yX1_cells : (Cond.code yX1_cells cX1_cells 1 (some .int)) ∈ TB := tb_r 395 (by decide +kernel) (by decide +kernel)
theorem tml_L_86 : (Cond.methodLink RL 86 yX1_cellKey) ∈ TB := tb_r 396 (by decide +kernel) (by decide +kernel)
theorem tim_yX1_cellKey : (Cond.instanceMethod yX1_cellKey) ∈ TB := tb_r 397 (by decide +kernel) (by decide +kernel)
theorem tse_yX1_cellKey : (Cond.selects RX1 yX1_cellKey yX1_cellKey) ∈ TB := tb_r 398 (by decide +kernel) (by decide +kernel)
theorem tco_yX1_cellKey : (Cond.code yX1_cellKey cX1_cellKey 2 (some .long)) ∈ TB := tb_r 399 (by decide +kernel) (by decide +kernel)
theorem tml_L_103 : (Cond.methodLink RL 103 yX1_window) ∈ TB := tb_r 400 (by decide +kernel) (by decide +kernel)
theorem tim_yX1_window : (Cond.instanceMethod yX1_window) ∈ TB := tb_r 401 (by decide +kernel) (by decide +kernel)
theorem tse_yX1_window : (Cond.selects RX1 yX1_window yX1_window) ∈ TB := tb_r 402 (by decide +kernel) (by decide +kernel)
theorem tco_yX1_window : (Cond.code yX1_window cX1_window 1 (some .int)) ∈ TB := tb_r 403 (by decide +kernel) (by decide +kernel)
theorem tml_L_108 : (Cond.methodLink RL 108 yX1_moved) ∈ TB := tb_r 404 (by decide +kernel) (by decide +kernel)
theorem tim_yX1_moved : (Cond.instanceMethod yX1_moved) ∈ TB := tb_r 405 (by decide +kernel) (by decide +kernel)
theorem tse_yX1_moved : (Cond.selects RX1 yX1_moved yX1_moved) ∈ TB := tb_r 406 (by decide +kernel) (by decide +kernel)
theorem tco_yX1_moved : (Cond.code yX1_moved cX1_moved 1 (some .long)) ∈ TB := tb_r 407 (by decide +kernel) (by decide +kernel)
theorem tcn_L_21 : (Cond.constantLong RL 21 4294967295) ∈ TB := tb_r 408 (by decide +kernel) (by decide +kernel)
theorem tse_yX0_cellOf : (Cond.selects RX0 yX0_cellOf yX0_cellOf) ∈ TB := tb_l 0 (by decide +kernel) (by decide +kernel)
theorem tse_yX0_cellNotBelow : (Cond.selects RX0 yX0_cellNotBelow yX0_cellNotBelow) ∈ TB := tb_l 1 (by decide +kernel) (by decide +kernel)
theorem tse_yX0_seek : (Cond.selects RX0 yX0_seek yX0_seek) ∈ TB := tb_l 2 (by decide +kernel) (by decide +kernel)
theorem tse_yX0_borneBy : (Cond.selects RX0 yX0_borneBy yX0_borneBy) ∈ TB := tb_l 3 (by decide +kernel) (by decide +kernel)
theorem tse_yX0_segments : (Cond.selects RX0 yX0_segments yX0_segments) ∈ TB := tb_l 4 (by decide +kernel) (by decide +kernel)
theorem tse_yX0_greatestKey : (Cond.selects RX0 yX0_greatestKey yX0_greatestKey) ∈ TB := tb_l 5 (by decide +kernel) (by decide +kernel)
theorem tse_yX0_putNew : (Cond.selects RX0 yX0_putNew yX0_putNew) ∈ TB := tb_l 6 (by decide +kernel) (by decide +kernel)
theorem tse_yX0_heightWithRoom : (Cond.selects RX0 yX0_heightWithRoom yX0_heightWithRoom) ∈ TB := tb_l 7 (by decide +kernel) (by decide +kernel)
theorem tse_yX0_keysInWindow : (Cond.selects RX0 yX0_keysInWindow yX0_keysInWindow) ∈ TB := tb_l 8 (by decide +kernel) (by decide +kernel)
theorem tse_yX0_keysAmong : (Cond.selects RX0 yX0_keysAmong yX0_keysAmong) ∈ TB := tb_l 9 (by decide +kernel) (by decide +kernel)
theorem tse_yX0_mostKeys : (Cond.selects RX0 yX0_mostKeys yX0_mostKeys) ∈ TB := tb_l 10 (by decide +kernel) (by decide +kernel)
theorem tse_yX0_pack : (Cond.selects RX0 yX0_pack yX0_pack) ∈ TB := tb_l 11 (by decide +kernel) (by decide +kernel)
theorem tse_yX0_shift : (Cond.selects RX0 yX0_shift yX0_shift) ∈ TB := tb_l 12 (by decide +kernel) (by decide +kernel)
theorem tse_yX0_clear : (Cond.selects RX0 yX0_clear yX0_clear) ∈ TB := tb_l 13 (by decide +kernel) (by decide +kernel)
theorem tse_yX0_insertPacked : (Cond.selects RX0 yX0_insertPacked yX0_insertPacked) ∈ TB := tb_l 14 (by decide +kernel) (by decide +kernel)
theorem tse_yX0_spreadPacked : (Cond.selects RX0 yX0_spreadPacked yX0_spreadPacked) ∈ TB := tb_l 15 (by decide +kernel) (by decide +kernel)
theorem tse_yX0_takeOut : (Cond.selects RX0 yX0_takeOut yX0_takeOut) ∈ TB := tb_l 16 (by decide +kernel) (by decide +kernel)
theorem tse_yX0_heightWithEnough : (Cond.selects RX0 yX0_heightWithEnough yX0_heightWithEnough) ∈ TB := tb_l 17 (by decide +kernel) (by decide +kernel)
theorem tse_yX0_fewestKeys : (Cond.selects RX0 yX0_fewestKeys yX0_fewestKeys) ∈ TB := tb_l 18 (by decide +kernel) (by decide +kernel)
theorem tse_yX0_halve : (Cond.selects RX0 yX0_halve yX0_halve) ∈ TB := tb_l 19 (by decide +kernel) (by decide +kernel)
theorem tse_yX0_isHeldBetween : (Cond.selects RX0 yX0_isHeldBetween yX0_isHeldBetween) ∈ TB := tb_l 20 (by decide +kernel) (by decide +kernel)
theorem tse_yX0_noteBlock : (Cond.selects RX0 yX0_noteBlock yX0_noteBlock) ∈ TB := tb_l 21 (by decide +kernel) (by decide +kernel)
theorem tse_yX1_isNode : (Cond.selects RX1 yX1_isNode yX1_isNode) ∈ TB := tb_l 22 (by decide +kernel) (by decide +kernel)
theorem tse_yX1_segments : (Cond.selects RX1 yX1_segments yX1_segments) ∈ TB := tb_l 23 (by decide +kernel) (by decide +kernel)
theorem tse_yX1_placeOf : (Cond.selects RX1 yX1_placeOf yX1_placeOf) ∈ TB := tb_l 24 (by decide +kernel) (by decide +kernel)
theorem tse_yX1_levels : (Cond.selects RX1 yX1_levels yX1_levels) ∈ TB := tb_l 25 (by decide +kernel) (by decide +kernel)
theorem tse_yX1_bears : (Cond.selects RX1 yX1_bears yX1_bears) ∈ TB := tb_l 26 (by decide +kernel) (by decide +kernel)
theorem tse_yX1_greatest : (Cond.selects RX1 yX1_greatest yX1_greatest) ∈ TB := tb_l 27 (by decide +kernel) (by decide +kernel)
theorem tse_yX1_seek : (Cond.selects RX1 yX1_seek yX1_seek) ∈ TB := tb_l 28 (by decide +kernel) (by decide +kernel)
theorem tse_yX1_step : (Cond.selects RX1 yX1_step yX1_step) ∈ TB := tb_l 29 (by decide +kernel) (by decide +kernel)
theorem tse_yX1_cellOf : (Cond.selects RX1 yX1_cellOf yX1_cellOf) ∈ TB := tb_l 30 (by decide +kernel) (by decide +kernel)
theorem tse_yX1_held : (Cond.selects RX1 yX1_held yX1_held) ∈ TB := tb_l 31 (by decide +kernel) (by decide +kernel)
theorem tse_yX1_most : (Cond.selects RX1 yX1_most yX1_most) ∈ TB := tb_l 32 (by decide +kernel) (by decide +kernel)
theorem tse_yX1_lift : (Cond.selects RX1 yX1_lift yX1_lift) ∈ TB := tb_l 33 (by decide +kernel) (by decide +kernel)
theorem tse_yX1_join : (Cond.selects RX1 yX1_join yX1_join) ∈ TB := tb_l 34 (by decide +kernel) (by decide +kernel)
theorem tse_yX1_spread : (Cond.selects RX1 yX1_spread yX1_spread) ∈ TB := tb_l 35 (by decide +kernel) (by decide +kernel)
theorem tse_yX1_fewest : (Cond.selects RX1 yX1_fewest yX1_fewest) ∈ TB := tb_l 36 (by decide +kernel) (by decide +kernel)
theorem tb_good {w : Cond} (h : w ∈ TB) : goodWord w = true := (List.mem_filter.mp h).2
theorem tb_in {w : Cond} (h : w ∈ TB) : w ∈ lw_tbl := (List.mem_filter.mp h).1
theorem g_of {big ws : List Cond} (h : ∀ w ∈ ws, w ∈ big ∧ w ∈ TB) : GoodIn big ws := fun w hw => ⟨(h w hw).1, good_of_word (tb_good (h w hw).2)⟩
theorem gV {c1 c2 : Cond} {own C : String} {idx : Nat} {y : MethodName} (h1 : (Cond.methodLink own idx y) ∈ TB) (h2 : (Cond.instanceMethod y) ∈ TB) (h3 : (Cond.selects C y y) ∈ TB) (h4 : (Cond.initialized C) ∈ TB) (h5 : c2 ∈ TB) : GoodIn (c1 :: TB) (wsV own idx C y (c2 :: TB)) := by
  refine g_of (fun w hw => ?_)
  have hm : w ∈ TB := by
    rcases List.mem_append.mp hw with q | q
    · rcases List.mem_cons.mp q with rfl | q
      · exact h1
      rcases List.mem_cons.mp q with rfl | q
      · exact h2
      rcases List.mem_cons.mp q with rfl | q
      · exact h3
      rcases List.mem_cons.mp q with rfl | q
      · exact h4
      · exact absurd q List.not_mem_nil
    · rcases List.mem_cons.mp q with rfl | q
      · exact h5
      · exact q
  exact ⟨List.mem_cons_of_mem _ hm, hm⟩
theorem gS {c1 c2 : Cond} {own : String} {idx : Nat} {y : MethodName} (h1 : (Cond.methodLink own idx y) ∈ TB) (h2 : (Cond.static y) ∈ TB) (h3 : (Cond.initialized y.cls) ∈ TB) (h5 : c2 ∈ TB) : GoodIn (c1 :: TB) (va_wsS own idx y (c2 :: TB)) := by
  refine g_of (fun w hw => ?_)
  have hm : w ∈ TB := by
    rcases List.mem_append.mp hw with q | q
    · rcases List.mem_cons.mp q with rfl | q
      · exact h1
      rcases List.mem_cons.mp q with rfl | q
      · exact h2
      rcases List.mem_cons.mp q with rfl | q
      · exact h3
      · exact absurd q List.not_mem_nil
    · rcases List.mem_cons.mp q with rfl | q
      · exact h5
      · exact q
  exact ⟨List.mem_cons_of_mem _ hm, hm⟩
theorem gT {c1 : Cond} {big : List Cond} (h5 : c1 ∈ TB) (hb : ∀ w ∈ TB, w ∈ big) : GoodIn big (c1 :: TB) := g_of (fun w hw => by
  rcases List.mem_cons.mp hw with rfl | q
  · exact ⟨hb _ h5, h5⟩
  · exact ⟨hb _ q, q⟩)
theorem gLess {c1 : Cond} {ws : List Cond} (h : GoodIn (c1 :: TB) ws) (h1 : c1 ∈ TB) : GoodIn TB ws := fun w hw => ⟨by
  rcases List.mem_cons.mp (h w hw).1 with rfl | q
  · exact h1
  · exact q, (h w hw).2⟩
theorem iX0 : ∀ w ∈ u_ws RX0 TX0 7, w ∈ TB := by decide +kernel
theorem iX1 : ∀ w ∈ u_ws RX1 TX1 10, w ∈ TB := by decide +kernel
theorem htl {c1 : Cond} {args : Array Value} {s : State} (h : ∀ w ∈ c1 :: TB, w.before args s = true) : ∀ w ∈ TB, w.before args s = true := fun w hw => h w (List.mem_cons_of_mem _ hw)
abbrev wsX0_init : List Cond := .code yX0_init cX0_init 2 none :: TB
abbrev wsJ7_fill_d0a16 : List Cond := .code yJ7_fill_d0a16 cJ7_fill_d0a16 5 none :: TB
abbrev wsX0_put : List Cond := .code yX0_put cX0_put 6 (some .int) :: TB
abbrev wsX0_cellOf : List Cond := .code yX0_cellOf cX0_cellOf 4 (some .int) :: TB
abbrev wsX0_cellNotBelow : List Cond := .code yX0_cellNotBelow cX0_cellNotBelow 5 (some .int) :: TB
abbrev wsX0_seek : List Cond := .code yX0_seek cX0_seek 8 (some .int) :: TB
abbrev wsX0_borneBy : List Cond := .code yX0_borneBy cX0_borneBy 4 (some .long) :: TB
abbrev wsX0_depthOf : List Cond := .code yX0_depthOf cX0_depthOf 3 (some .int) :: TB
abbrev wsX0_segments : List Cond := .code yX0_segments cX0_segments 1 (some .int) :: TB
abbrev wsX0_windowCells : List Cond := .code yX0_windowCells cX0_windowCells 1 (some .int) :: TB
abbrev wsX0_greatestKey : List Cond := .code yX0_greatestKey cX0_greatestKey 4 (some .long) :: TB
abbrev wsX0_putNew : List Cond := .code yX0_putNew cX0_putNew 9 (some .boolean) :: TB
abbrev wsX0_heightWithRoom : List Cond := .code yX0_heightWithRoom cX0_heightWithRoom 3 (some .int) :: TB
abbrev wsX0_keysInWindow : List Cond := .code yX0_keysInWindow cX0_keysInWindow 3 (some .int) :: TB
abbrev wsX0_firstCell : List Cond := .code yX0_firstCell cX0_firstCell 2 (some .int) :: TB
abbrev wsX0_keysAmong : List Cond := .code yX0_keysAmong cX0_keysAmong 5 (some .int) :: TB
abbrev wsX0_mostKeys : List Cond := .code yX0_mostKeys cX0_mostKeys 2 (some .int) :: TB
abbrev wsX0_cells : List Cond := .code yX0_cells cX0_cells 1 (some .int) :: TB
abbrev wsX0_pack : List Cond := .code yX0_pack cX0_pack 5 (some .int) :: TB
abbrev wsX0_shift : List Cond := .code yX0_shift cX0_shift 3 none :: TB
abbrev wsX0_clear : List Cond := .code yX0_clear cX0_clear 2 none :: TB
abbrev wsX0_insertPacked : List Cond := .code yX0_insertPacked cX0_insertPacked 8 none :: TB
abbrev wsX0_spreadPacked : List Cond := .code yX0_spreadPacked cX0_spreadPacked 5 none :: TB
abbrev wsX0_fill : List Cond := .code yX0_fill cX0_fill 9 (some .int) :: TB
abbrev wsX0_remove : List Cond := .code yX0_remove cX0_remove 4 (some .boolean) :: TB
abbrev wsX0_takeOut : List Cond := .code yX0_takeOut cX0_takeOut 5 none :: TB
abbrev wsX0_heightWithEnough : List Cond := .code yX0_heightWithEnough cX0_heightWithEnough 3 (some .int) :: TB
abbrev wsX0_fewestKeys : List Cond := .code yX0_fewestKeys cX0_fewestKeys 3 (some .int) :: TB
abbrev wsX0_halve : List Cond := .code yX0_halve cX0_halve 2 none :: TB
abbrev wsX0_drop : List Cond := .code yX0_drop cX0_drop 6 (some .int) :: TB
abbrev wsX0_has : List Cond := .code yX0_has cX0_has 3 (some .boolean) :: TB
abbrev wsX0_get : List Cond := .code yX0_get cX0_get 4 (some .long) :: TB
abbrev wsX0_floor : List Cond := .code yX0_floor cX0_floor 4 (some .long) :: TB
abbrev wsX0_ceiling : List Cond := .code yX0_ceiling cX0_ceiling 4 (some .long) :: TB
abbrev wsX0_select : List Cond := .code yX0_select cX0_select 4 (some .long) :: TB
abbrev wsX0_count : List Cond := .code yX0_count cX0_count 7 (some .int) :: TB
abbrev wsX0_isHeldBetween : List Cond := .code yX0_isHeldBetween cX0_isHeldBetween 8 (some .boolean) :: TB
abbrev wsX0_sum : List Cond := .code yX0_sum cX0_sum 8 (some .long) :: TB
abbrev wsX0_size : List Cond := .code yX0_size cX0_size 1 (some .int) :: TB
abbrev wsX0_cellKey : List Cond := .code yX0_cellKey cX0_cellKey 2 (some .long) :: TB
abbrev wsX0_place : List Cond := .code yX0_place cX0_place 2 (some .int) :: TB
abbrev wsX0_placeInTree : List Cond := .code yX0_placeInTree cX0_placeInTree 7 (some .int) :: TB
abbrev wsX0_nodesOfTree : List Cond := .code yX0_nodesOfTree cX0_nodesOfTree 1 (some .int) :: TB
abbrev wsX0_borne : List Cond := .code yX0_borne cX0_borne 3 (some .long) :: TB
abbrev wsX0_touched : List Cond := .code yX0_touched cX0_touched 8 (some .int) :: TB
abbrev wsX0_noteBlock : List Cond := .code yX0_noteBlock cX0_noteBlock 4 (some .int) :: TB
abbrev wsX0_window : List Cond := .code yX0_window cX0_window 1 (some .int) :: TB
abbrev wsX0_moved : List Cond := .code yX0_moved cX0_moved 1 (some .long) :: TB
abbrev wsL_cell : List Cond := .code yL_cell cL_cell 2 (some .int) :: TB
abbrev wsX1_init : List Cond := .code yX1_init cX1_init 2 none :: TB
abbrev wsX1_place : List Cond := .code yX1_place cX1_place 2 (some .int) :: TB
abbrev wsX1_isNode : List Cond := .code yX1_isNode cX1_isNode 2 (some .boolean) :: TB
abbrev wsX1_segments : List Cond := .code yX1_segments cX1_segments 1 (some .int) :: TB
abbrev wsX1_placeOf : List Cond := .code yX1_placeOf cX1_placeOf 9 (some .int) :: TB
abbrev wsX1_levels : List Cond := .code yX1_levels cX1_levels 3 (some .int) :: TB
abbrev wsX1_levelOf : List Cond := .code yX1_levelOf cX1_levelOf 3 (some .int) :: TB
abbrev wsX1_borne : List Cond := .code yX1_borne cX1_borne 5 (some .long) :: TB
abbrev wsX1_bears : List Cond := .code yX1_bears cX1_bears 4 (some .long) :: TB
abbrev wsX1_greatest : List Cond := .code yX1_greatest cX1_greatest 6 (some .long) :: TB
abbrev wsX1_touched : List Cond := .code yX1_touched cX1_touched 10 (some .int) :: TB
abbrev wsX1_seek : List Cond := .code yX1_seek cX1_seek 4 (some .int) :: TB
abbrev wsX1_step : List Cond := .code yX1_step cX1_step 6 (some .int) :: TB
abbrev wsX1_put : List Cond := .code yX1_put cX1_put 10 (some .int) :: TB
abbrev wsX1_cellOf : List Cond := .code yX1_cellOf cX1_cellOf 5 (some .int) :: TB
abbrev wsX1_firstOf : List Cond := .code yX1_firstOf cX1_firstOf 2 (some .int) :: TB
abbrev wsX1_held : List Cond := .code yX1_held cX1_held 5 (some .int) :: TB
abbrev wsX1_most : List Cond := .code yX1_most cX1_most 3 (some .int) :: TB
abbrev wsX1_lift : List Cond := .code yX1_lift cX1_lift 4 none :: TB
abbrev wsX1_join : List Cond := .code yX1_join cX1_join 6 none :: TB
abbrev wsX1_spread : List Cond := .code yX1_spread cX1_spread 6 none :: TB
abbrev wsX1_fill : List Cond := .code yX1_fill cX1_fill 11 (some .int) :: TB
abbrev wsX1_remove : List Cond := .code yX1_remove cX1_remove 7 (some .boolean) :: TB
abbrev wsX1_fewest : List Cond := .code yX1_fewest cX1_fewest 3 (some .int) :: TB
abbrev wsX1_drop : List Cond := .code yX1_drop cX1_drop 9 (some .int) :: TB
abbrev wsX1_ceiling : List Cond := .code yX1_ceiling cX1_ceiling 6 (some .long) :: TB
abbrev wsX1_has : List Cond := .code yX1_has cX1_has 3 (some .boolean) :: TB
abbrev wsX1_get : List Cond := .code yX1_get cX1_get 4 (some .long) :: TB
abbrev wsX1_floor : List Cond := .code yX1_floor cX1_floor 6 (some .long) :: TB
abbrev wsX1_select : List Cond := .code yX1_select cX1_select 6 (some .long) :: TB
abbrev wsX1_count : List Cond := .code yX1_count cX1_count 7 (some .int) :: TB
abbrev wsX1_sum : List Cond := .code yX1_sum cX1_sum 8 (some .long) :: TB
abbrev wsX1_size : List Cond := .code yX1_size cX1_size 1 (some .int) :: TB
abbrev wsX1_cells : List Cond := .code yX1_cells cX1_cells 1 (some .int) :: TB
abbrev wsX1_cellKey : List Cond := .code yX1_cellKey cX1_cellKey 2 (some .long) :: TB
abbrev wsX1_window : List Cond := .code yX1_window cX1_window 1 (some .int) :: TB
abbrev wsX1_moved : List Cond := .code yX1_moved cX1_moved 1 (some .long) :: TB
theorem gX0_put_X0_cellOf : GoodIn wsX0_put (wsV RX0 42 RX0 yX0_cellOf wsX0_cellOf) := gV tml_X0_42 tim_yX0_cellOf tse_yX0_cellOf tin_X0 tco_yX0_cellOf
theorem gX0_put_X0_putNew : GoodIn wsX0_put (wsV RX0 46 RX0 yX0_putNew wsX0_putNew) := gV tml_X0_46 tim_yX0_putNew tse_yX0_putNew tin_X0 tco_yX0_putNew
theorem gX0_fill_X0_put : GoodIn wsX0_fill (wsV RX0 50 RX0 yX0_put wsX0_put) := gV tml_X0_50 tim_yX0_put tse_yX0_put tin_X0 tco_yX0_put
theorem gX0_remove_X0_cellOf : GoodIn wsX0_remove (wsV RX0 42 RX0 yX0_cellOf wsX0_cellOf) := gV tml_X0_42 tim_yX0_cellOf tse_yX0_cellOf tin_X0 tco_yX0_cellOf
theorem gX0_remove_X0_takeOut : GoodIn wsX0_remove (wsV RX0 54 RX0 yX0_takeOut wsX0_takeOut) := gV tml_X0_54 tim_yX0_takeOut tse_yX0_takeOut tin_X0 tco_yX0_takeOut
theorem gX0_drop_X0_cellNotBelow : GoodIn wsX0_drop (wsV RX0 58 RX0 yX0_cellNotBelow wsX0_cellNotBelow) := gV tml_X0_58 tim_yX0_cellNotBelow tse_yX0_cellNotBelow tin_X0 tco_yX0_cellNotBelow
theorem gX0_drop_X0_takeOut : GoodIn wsX0_drop (wsV RX0 54 RX0 yX0_takeOut wsX0_takeOut) := gV tml_X0_54 tim_yX0_takeOut tse_yX0_takeOut tin_X0 tco_yX0_takeOut
theorem gX0_has_X0_cellOf : GoodIn wsX0_has (wsV RX0 42 RX0 yX0_cellOf wsX0_cellOf) := gV tml_X0_42 tim_yX0_cellOf tse_yX0_cellOf tin_X0 tco_yX0_cellOf
theorem gX0_get_X0_cellOf : GoodIn wsX0_get (wsV RX0 42 RX0 yX0_cellOf wsX0_cellOf) := gV tml_X0_42 tim_yX0_cellOf tse_yX0_cellOf tin_X0 tco_yX0_cellOf
theorem gX0_floor_X0_cells : GoodIn wsX0_floor (wsV RX0 61 RX0 yX0_cells wsX0_cells) := gV tml_X0_61 tim_yX0_cells tse_yX0_cells tin_X0 tco_yX0_cells
theorem gX0_ceiling_X0_cellNotBelow : GoodIn wsX0_ceiling (wsV RX0 58 RX0 yX0_cellNotBelow wsX0_cellNotBelow) := gV tml_X0_58 tim_yX0_cellNotBelow tse_yX0_cellNotBelow tin_X0 tco_yX0_cellNotBelow
theorem gX0_select_X0_cells : GoodIn wsX0_select (wsV RX0 61 RX0 yX0_cells wsX0_cells) := gV tml_X0_61 tim_yX0_cells tse_yX0_cells tin_X0 tco_yX0_cells
theorem gX0_count_X0_cells : GoodIn wsX0_count (wsV RX0 61 RX0 yX0_cells wsX0_cells) := gV tml_X0_61 tim_yX0_cells tse_yX0_cells tin_X0 tco_yX0_cells
theorem gX0_count_X0_isHeldBetween : GoodIn wsX0_count (wsV RX0 65 RX0 yX0_isHeldBetween wsX0_isHeldBetween) := gV tml_X0_65 tim_yX0_isHeldBetween tse_yX0_isHeldBetween tin_X0 tco_yX0_isHeldBetween
theorem gX0_sum_X0_cells : GoodIn wsX0_sum (wsV RX0 61 RX0 yX0_cells wsX0_cells) := gV tml_X0_61 tim_yX0_cells tse_yX0_cells tin_X0 tco_yX0_cells
theorem gX0_sum_X0_isHeldBetween : GoodIn wsX0_sum (wsV RX0 65 RX0 yX0_isHeldBetween wsX0_isHeldBetween) := gV tml_X0_65 tim_yX0_isHeldBetween tse_yX0_isHeldBetween tin_X0 tco_yX0_isHeldBetween
theorem gX0_size_X0_cells : GoodIn wsX0_size (wsV RX0 61 RX0 yX0_cells wsX0_cells) := gV tml_X0_61 tim_yX0_cells tse_yX0_cells tin_X0 tco_yX0_cells
theorem gX0_size_X0_keysAmong : GoodIn wsX0_size (wsV RX0 69 RX0 yX0_keysAmong wsX0_keysAmong) := gV tml_X0_69 tim_yX0_keysAmong tse_yX0_keysAmong tin_X0 tco_yX0_keysAmong
theorem gX0_cells_X0_windowCells : GoodIn wsX0_cells (va_wsS RX0 73 yX0_windowCells wsX0_windowCells) := gS tml_X0_73 tst_yX0_windowCells tin_X0 tco_yX0_windowCells
theorem gX0_cellKey_X0_cells : GoodIn wsX0_cellKey (wsV RX0 61 RX0 yX0_cells wsX0_cells) := gV tml_X0_61 tim_yX0_cells tse_yX0_cells tin_X0 tco_yX0_cells
theorem gX0_place_X0_segments : GoodIn wsX0_place (wsV RX0 77 RX0 yX0_segments wsX0_segments) := gV tml_X0_77 tim_yX0_segments tse_yX0_segments tin_X0 tco_yX0_segments
theorem gX0_place_X0_placeInTree : GoodIn wsX0_place (va_wsS RX0 80 yX0_placeInTree wsX0_placeInTree) := gS tml_X0_80 tst_yX0_placeInTree tin_X0 tco_yX0_placeInTree
theorem gX0_borne_X0_segments : GoodIn wsX0_borne (wsV RX0 77 RX0 yX0_segments wsX0_segments) := gV tml_X0_77 tim_yX0_segments tse_yX0_segments tin_X0 tco_yX0_segments
theorem gX0_borne_X0_placeInTree : GoodIn wsX0_borne (va_wsS RX0 80 yX0_placeInTree wsX0_placeInTree) := gS tml_X0_80 tst_yX0_placeInTree tin_X0 tco_yX0_placeInTree
theorem gX0_borne_X0_borneBy : GoodIn wsX0_borne (wsV RX0 83 RX0 yX0_borneBy wsX0_borneBy) := gV tml_X0_83 tim_yX0_borneBy tse_yX0_borneBy tin_X0 tco_yX0_borneBy
theorem gX0_touched_X0_seek : GoodIn wsX0_touched (wsV RX0 87 RX0 yX0_seek wsX0_seek) := gV tml_X0_87 tim_yX0_seek tse_yX0_seek tin_X0 tco_yX0_seek
theorem gX0_touched_X0_segments : GoodIn wsX0_touched (wsV RX0 77 RX0 yX0_segments wsX0_segments) := gV tml_X0_77 tim_yX0_segments tse_yX0_segments tin_X0 tco_yX0_segments
theorem gX0_touched_X0_placeInTree : GoodIn wsX0_touched (va_wsS RX0 80 yX0_placeInTree wsX0_placeInTree) := gS tml_X0_80 tst_yX0_placeInTree tin_X0 tco_yX0_placeInTree
theorem gX0_touched_X0_noteBlock : GoodIn wsX0_touched (wsV RX0 90 RX0 yX0_noteBlock wsX0_noteBlock) := gV tml_X0_90 tim_yX0_noteBlock tse_yX0_noteBlock tin_X0 tco_yX0_noteBlock
theorem gX0_seek_X0_borneBy : GoodIn wsX0_seek (wsV RX0 83 RX0 yX0_borneBy wsX0_borneBy) := gV tml_X0_83 tim_yX0_borneBy tse_yX0_borneBy tin_X0 tco_yX0_borneBy
theorem gX0_seek_X0_segments : GoodIn wsX0_seek (wsV RX0 77 RX0 yX0_segments wsX0_segments) := gV tml_X0_77 tim_yX0_segments tse_yX0_segments tin_X0 tco_yX0_segments
theorem gX0_borneBy_X0_depthOf : GoodIn wsX0_borneBy (va_wsS RX0 93 yX0_depthOf wsX0_depthOf) := gS tml_X0_93 tst_yX0_depthOf tin_X0 tco_yX0_depthOf
theorem gX0_borneBy_X0_segments : GoodIn wsX0_borneBy (wsV RX0 77 RX0 yX0_segments wsX0_segments) := gV tml_X0_77 tim_yX0_segments tse_yX0_segments tin_X0 tco_yX0_segments
theorem gX0_borneBy_X0_windowCells : GoodIn wsX0_borneBy (va_wsS RX0 73 yX0_windowCells wsX0_windowCells) := gS tml_X0_73 tst_yX0_windowCells tin_X0 tco_yX0_windowCells
theorem gX0_borneBy_X0_greatestKey : GoodIn wsX0_borneBy (wsV RX0 96 RX0 yX0_greatestKey wsX0_greatestKey) := gV tml_X0_96 tim_yX0_greatestKey tse_yX0_greatestKey tin_X0 tco_yX0_greatestKey
theorem gX0_placeInTree_X0_depthOf : GoodIn wsX0_placeInTree (va_wsS RX0 93 yX0_depthOf wsX0_depthOf) := gS tml_X0_93 tst_yX0_depthOf tin_X0 tco_yX0_depthOf
theorem gX0_placeInTree_X0_placeInTree : GoodIn wsX0_placeInTree (va_wsS RX0 80 yX0_placeInTree wsX0_placeInTree) := gS tml_X0_80 tst_yX0_placeInTree tin_X0 tco_yX0_placeInTree
theorem gX0_placeInTree_X0_nodesOfTree : GoodIn wsX0_placeInTree (va_wsS RX0 100 yX0_nodesOfTree wsX0_nodesOfTree) := gS tml_X0_100 tst_yX0_nodesOfTree tin_X0 tco_yX0_nodesOfTree
theorem gX0_cellNotBelow_X0_seek : GoodIn wsX0_cellNotBelow (wsV RX0 87 RX0 yX0_seek wsX0_seek) := gV tml_X0_87 tim_yX0_seek tse_yX0_seek tin_X0 tco_yX0_seek
theorem gX0_cellOf_X0_cellNotBelow : GoodIn wsX0_cellOf (wsV RX0 58 RX0 yX0_cellNotBelow wsX0_cellNotBelow) := gV tml_X0_58 tim_yX0_cellNotBelow tse_yX0_cellNotBelow tin_X0 tco_yX0_cellNotBelow
theorem gX0_firstCell_X0_windowCells : GoodIn wsX0_firstCell (va_wsS RX0 73 yX0_windowCells wsX0_windowCells) := gS tml_X0_73 tst_yX0_windowCells tin_X0 tco_yX0_windowCells
theorem gX0_keysInWindow_X0_firstCell : GoodIn wsX0_keysInWindow (va_wsS RX0 103 yX0_firstCell wsX0_firstCell) := gS tml_X0_103 tst_yX0_firstCell tin_X0 tco_yX0_firstCell
theorem gX0_keysInWindow_X0_windowCells : GoodIn wsX0_keysInWindow (va_wsS RX0 73 yX0_windowCells wsX0_windowCells) := gS tml_X0_73 tst_yX0_windowCells tin_X0 tco_yX0_windowCells
theorem gX0_keysInWindow_X0_keysAmong : GoodIn wsX0_keysInWindow (wsV RX0 69 RX0 yX0_keysAmong wsX0_keysAmong) := gV tml_X0_69 tim_yX0_keysAmong tse_yX0_keysAmong tin_X0 tco_yX0_keysAmong
theorem gX0_mostKeys_X0_windowCells : GoodIn wsX0_mostKeys (va_wsS RX0 73 yX0_windowCells wsX0_windowCells) := gS tml_X0_73 tst_yX0_windowCells tin_X0 tco_yX0_windowCells
theorem gX0_fewestKeys_X0_windowCells : GoodIn wsX0_fewestKeys (va_wsS RX0 73 yX0_windowCells wsX0_windowCells) := gS tml_X0_73 tst_yX0_windowCells tin_X0 tco_yX0_windowCells
theorem gX0_heightWithRoom_X0_keysInWindow : GoodIn wsX0_heightWithRoom (wsV RX0 106 RX0 yX0_keysInWindow wsX0_keysInWindow) := gV tml_X0_106 tim_yX0_keysInWindow tse_yX0_keysInWindow tin_X0 tco_yX0_keysInWindow
theorem gX0_heightWithRoom_X0_mostKeys : GoodIn wsX0_heightWithRoom (wsV RX0 109 RX0 yX0_mostKeys wsX0_mostKeys) := gV tml_X0_109 tim_yX0_mostKeys tse_yX0_mostKeys tin_X0 tco_yX0_mostKeys
theorem gX0_heightWithEnough_X0_keysInWindow : GoodIn wsX0_heightWithEnough (wsV RX0 106 RX0 yX0_keysInWindow wsX0_keysInWindow) := gV tml_X0_106 tim_yX0_keysInWindow tse_yX0_keysInWindow tin_X0 tco_yX0_keysInWindow
theorem gX0_heightWithEnough_X0_fewestKeys : GoodIn wsX0_heightWithEnough (wsV RX0 112 RX0 yX0_fewestKeys wsX0_fewestKeys) := gV tml_X0_112 tim_yX0_fewestKeys tse_yX0_fewestKeys tin_X0 tco_yX0_fewestKeys
theorem gX0_putNew_X0_seek : GoodIn wsX0_putNew (wsV RX0 87 RX0 yX0_seek wsX0_seek) := gV tml_X0_87 tim_yX0_seek tse_yX0_seek tin_X0 tco_yX0_seek
theorem gX0_putNew_X0_heightWithRoom : GoodIn wsX0_putNew (wsV RX0 115 RX0 yX0_heightWithRoom wsX0_heightWithRoom) := gV tml_X0_115 tim_yX0_heightWithRoom tse_yX0_heightWithRoom tin_X0 tco_yX0_heightWithRoom
theorem gX0_putNew_X0_cells : GoodIn wsX0_putNew (wsV RX0 61 RX0 yX0_cells wsX0_cells) := gV tml_X0_61 tim_yX0_cells tse_yX0_cells tin_X0 tco_yX0_cells
theorem gX0_putNew_X0_firstCell : GoodIn wsX0_putNew (va_wsS RX0 103 yX0_firstCell wsX0_firstCell) := gS tml_X0_103 tst_yX0_firstCell tin_X0 tco_yX0_firstCell
theorem gX0_putNew_X0_windowCells : GoodIn wsX0_putNew (va_wsS RX0 73 yX0_windowCells wsX0_windowCells) := gS tml_X0_73 tst_yX0_windowCells tin_X0 tco_yX0_windowCells
theorem gX0_putNew_X0_pack : GoodIn wsX0_putNew (wsV RX0 118 RX0 yX0_pack wsX0_pack) := gV tml_X0_118 tim_yX0_pack tse_yX0_pack tin_X0 tco_yX0_pack
theorem gX0_putNew_X0_insertPacked : GoodIn wsX0_putNew (wsV RX0 121 RX0 yX0_insertPacked wsX0_insertPacked) := gV tml_X0_121 tim_yX0_insertPacked tse_yX0_insertPacked tin_X0 tco_yX0_insertPacked
theorem gX0_putNew_X0_spreadPacked : GoodIn wsX0_putNew (wsV RX0 125 RX0 yX0_spreadPacked wsX0_spreadPacked) := gV tml_X0_125 tim_yX0_spreadPacked tse_yX0_spreadPacked tin_X0 tco_yX0_spreadPacked
theorem gX0_takeOut_X0_clear : GoodIn wsX0_takeOut (wsV RX0 129 RX0 yX0_clear wsX0_clear) := gV tml_X0_129 tim_yX0_clear tse_yX0_clear tin_X0 tco_yX0_clear
theorem gX0_takeOut_X0_heightWithEnough : GoodIn wsX0_takeOut (wsV RX0 132 RX0 yX0_heightWithEnough wsX0_heightWithEnough) := gV tml_X0_132 tim_yX0_heightWithEnough tse_yX0_heightWithEnough tin_X0 tco_yX0_heightWithEnough
theorem gX0_takeOut_X0_firstCell : GoodIn wsX0_takeOut (va_wsS RX0 103 yX0_firstCell wsX0_firstCell) := gS tml_X0_103 tst_yX0_firstCell tin_X0 tco_yX0_firstCell
theorem gX0_takeOut_X0_windowCells : GoodIn wsX0_takeOut (va_wsS RX0 73 yX0_windowCells wsX0_windowCells) := gS tml_X0_73 tst_yX0_windowCells tin_X0 tco_yX0_windowCells
theorem gX0_takeOut_X0_pack : GoodIn wsX0_takeOut (wsV RX0 118 RX0 yX0_pack wsX0_pack) := gV tml_X0_118 tim_yX0_pack tse_yX0_pack tin_X0 tco_yX0_pack
theorem gX0_takeOut_X0_spreadPacked : GoodIn wsX0_takeOut (wsV RX0 125 RX0 yX0_spreadPacked wsX0_spreadPacked) := gV tml_X0_125 tim_yX0_spreadPacked tse_yX0_spreadPacked tin_X0 tco_yX0_spreadPacked
theorem gX0_takeOut_X0_halve : GoodIn wsX0_takeOut (wsV RX0 135 RX0 yX0_halve wsX0_halve) := gV tml_X0_135 tim_yX0_halve tse_yX0_halve tin_X0 tco_yX0_halve
theorem gX0_halve_X0_cells : GoodIn wsX0_halve (wsV RX0 61 RX0 yX0_cells wsX0_cells) := gV tml_X0_61 tim_yX0_cells tse_yX0_cells tin_X0 tco_yX0_cells
theorem gX0_halve_X0_pack : GoodIn wsX0_halve (wsV RX0 118 RX0 yX0_pack wsX0_pack) := gV tml_X0_118 tim_yX0_pack tse_yX0_pack tin_X0 tco_yX0_pack
theorem gX0_halve_X0_spreadPacked : GoodIn wsX0_halve (wsV RX0 125 RX0 yX0_spreadPacked wsX0_spreadPacked) := gV tml_X0_125 tim_yX0_spreadPacked tse_yX0_spreadPacked tin_X0 tco_yX0_spreadPacked
theorem gX0_pack_X0_shift : GoodIn wsX0_pack (wsV RX0 138 RX0 yX0_shift wsX0_shift) := gV tml_X0_138 tim_yX0_shift tse_yX0_shift tin_X0 tco_yX0_shift
theorem gX0_insertPacked_X0_shift : GoodIn wsX0_insertPacked (wsV RX0 138 RX0 yX0_shift wsX0_shift) := gV tml_X0_138 tim_yX0_shift tse_yX0_shift tin_X0 tco_yX0_shift
theorem gX0_spreadPacked_X0_windowCells : GoodIn wsX0_spreadPacked (va_wsS RX0 73 yX0_windowCells wsX0_windowCells) := gS tml_X0_73 tst_yX0_windowCells tin_X0 tco_yX0_windowCells
theorem gX0_spreadPacked_X0_shift : GoodIn wsX0_spreadPacked (wsV RX0 138 RX0 yX0_shift wsX0_shift) := gV tml_X0_138 tim_yX0_shift tse_yX0_shift tin_X0 tco_yX0_shift
theorem gX0_shift_X0_clear : GoodIn wsX0_shift (wsV RX0 129 RX0 yX0_clear wsX0_clear) := gV tml_X0_129 tim_yX0_clear tse_yX0_clear tin_X0 tco_yX0_clear
theorem gX1_levels_X1_segments : GoodIn wsX1_levels (wsV RX1 36 RX1 yX1_segments wsX1_segments) := gV tml_X1_36 tim_yX1_segments tse_yX1_segments tin_X1 tco_yX1_segments
theorem gX1_bears_X1_segments : GoodIn wsX1_bears (wsV RX1 36 RX1 yX1_segments wsX1_segments) := gV tml_X1_36 tim_yX1_segments tse_yX1_segments tin_X1 tco_yX1_segments
theorem gX1_bears_X1_levelOf : GoodIn wsX1_bears (va_wsS RX1 42 yX1_levelOf wsX1_levelOf) := gS tml_X1_42 tst_yX1_levelOf tin_X1 tco_yX1_levelOf
theorem gX1_bears_X1_greatest : GoodIn wsX1_bears (wsV RX1 46 RX1 yX1_greatest wsX1_greatest) := gV tml_X1_46 tim_yX1_greatest tse_yX1_greatest tin_X1 tco_yX1_greatest
theorem gX1_step_X1_bears : GoodIn wsX1_step (wsV RX1 50 RX1 yX1_bears wsX1_bears) := gV tml_X1_50 tim_yX1_bears tse_yX1_bears tin_X1 tco_yX1_bears
theorem gX1_seek_X1_segments : GoodIn wsX1_seek (wsV RX1 36 RX1 yX1_segments wsX1_segments) := gV tml_X1_36 tim_yX1_segments tse_yX1_segments tin_X1 tco_yX1_segments
theorem gX1_seek_X1_step : GoodIn wsX1_seek (wsV RX1 54 RX1 yX1_step wsX1_step) := gV tml_X1_54 tim_yX1_step tse_yX1_step tin_X1 tco_yX1_step
theorem gX1_placeOf_X1_levels : GoodIn wsX1_placeOf (wsV RX1 58 RX1 yX1_levels wsX1_levels) := gV tml_X1_58 tim_yX1_levels tse_yX1_levels tin_X1 tco_yX1_levels
theorem gX1_placeOf_X1_levelOf : GoodIn wsX1_placeOf (va_wsS RX1 42 yX1_levelOf wsX1_levelOf) := gS tml_X1_42 tst_yX1_levelOf tin_X1 tco_yX1_levelOf
theorem gX1_isNode_X1_segments : GoodIn wsX1_isNode (wsV RX1 36 RX1 yX1_segments wsX1_segments) := gV tml_X1_36 tim_yX1_segments tse_yX1_segments tin_X1 tco_yX1_segments
theorem gX1_place_X1_isNode : GoodIn wsX1_place (wsV RX1 61 RX1 yX1_isNode wsX1_isNode) := gV tml_X1_61 tim_yX1_isNode tse_yX1_isNode tin_X1 tco_yX1_isNode
theorem gX1_place_X1_placeOf : GoodIn wsX1_place (wsV RX1 65 RX1 yX1_placeOf wsX1_placeOf) := gV tml_X1_65 tim_yX1_placeOf tse_yX1_placeOf tin_X1 tco_yX1_placeOf
theorem gX1_borne_X1_segments : GoodIn wsX1_borne (wsV RX1 36 RX1 yX1_segments wsX1_segments) := gV tml_X1_36 tim_yX1_segments tse_yX1_segments tin_X1 tco_yX1_segments
theorem gX1_borne_X1_placeOf : GoodIn wsX1_borne (wsV RX1 65 RX1 yX1_placeOf wsX1_placeOf) := gV tml_X1_65 tim_yX1_placeOf tse_yX1_placeOf tin_X1 tco_yX1_placeOf
theorem gX1_borne_X1_bears : GoodIn wsX1_borne (wsV RX1 50 RX1 yX1_bears wsX1_bears) := gV tml_X1_50 tim_yX1_bears tse_yX1_bears tin_X1 tco_yX1_bears
theorem gX1_touched_X1_segments : GoodIn wsX1_touched (wsV RX1 36 RX1 yX1_segments wsX1_segments) := gV tml_X1_36 tim_yX1_segments tse_yX1_segments tin_X1 tco_yX1_segments
theorem gX1_touched_X1_seek : GoodIn wsX1_touched (wsV RX1 68 RX1 yX1_seek wsX1_seek) := gV tml_X1_68 tim_yX1_seek tse_yX1_seek tin_X1 tco_yX1_seek
theorem gX1_touched_X1_placeOf : GoodIn wsX1_touched (wsV RX1 65 RX1 yX1_placeOf wsX1_placeOf) := gV tml_X1_65 tim_yX1_placeOf tse_yX1_placeOf tin_X1 tco_yX1_placeOf
theorem gX1_touched_X1_step : GoodIn wsX1_touched (wsV RX1 54 RX1 yX1_step wsX1_step) := gV tml_X1_54 tim_yX1_step tse_yX1_step tin_X1 tco_yX1_step
theorem gX1_most_X1_levels : GoodIn wsX1_most (wsV RX1 58 RX1 yX1_levels wsX1_levels) := gV tml_X1_58 tim_yX1_levels tse_yX1_levels tin_X1 tco_yX1_levels
theorem gX1_fewest_X1_levels : GoodIn wsX1_fewest (wsV RX1 58 RX1 yX1_levels wsX1_levels) := gV tml_X1_58 tim_yX1_levels tse_yX1_levels tin_X1 tco_yX1_levels
theorem gX1_put_X1_cellOf : GoodIn wsX1_put (wsV RX1 79 RX1 yX1_cellOf wsX1_cellOf) := gV tml_X1_79 tim_yX1_cellOf tse_yX1_cellOf tin_X1 tco_yX1_cellOf
theorem gX1_put_X1_seek : GoodIn wsX1_put (wsV RX1 68 RX1 yX1_seek wsX1_seek) := gV tml_X1_68 tim_yX1_seek tse_yX1_seek tin_X1 tco_yX1_seek
theorem gX1_put_X1_levels : GoodIn wsX1_put (wsV RX1 58 RX1 yX1_levels wsX1_levels) := gV tml_X1_58 tim_yX1_levels tse_yX1_levels tin_X1 tco_yX1_levels
theorem gX1_put_X1_firstOf : GoodIn wsX1_put (va_wsS RX1 82 yX1_firstOf wsX1_firstOf) := gS tml_X1_82 tst_yX1_firstOf tin_X1 tco_yX1_firstOf
theorem gX1_put_X1_held : GoodIn wsX1_put (wsV RX1 86 RX1 yX1_held wsX1_held) := gV tml_X1_86 tim_yX1_held tse_yX1_held tin_X1 tco_yX1_held
theorem gX1_put_X1_most : GoodIn wsX1_put (wsV RX1 89 RX1 yX1_most wsX1_most) := gV tml_X1_89 tim_yX1_most tse_yX1_most tin_X1 tco_yX1_most
theorem gX1_put_X1_lift : GoodIn wsX1_put (wsV RX1 92 RX1 yX1_lift wsX1_lift) := gV tml_X1_92 tim_yX1_lift tse_yX1_lift tin_X1 tco_yX1_lift
theorem gX1_put_X1_join : GoodIn wsX1_put (wsV RX1 96 RX1 yX1_join wsX1_join) := gV tml_X1_96 tim_yX1_join tse_yX1_join tin_X1 tco_yX1_join
theorem gX1_put_X1_spread : GoodIn wsX1_put (wsV RX1 100 RX1 yX1_spread wsX1_spread) := gV tml_X1_100 tim_yX1_spread tse_yX1_spread tin_X1 tco_yX1_spread
theorem gX1_fill_X1_put : GoodIn wsX1_fill (wsV RX1 103 RX1 yX1_put wsX1_put) := gV tml_X1_103 tim_yX1_put tse_yX1_put tin_X1 tco_yX1_put
theorem gX1_remove_X1_cellOf : GoodIn wsX1_remove (wsV RX1 79 RX1 yX1_cellOf wsX1_cellOf) := gV tml_X1_79 tim_yX1_cellOf tse_yX1_cellOf tin_X1 tco_yX1_cellOf
theorem gX1_remove_X1_levels : GoodIn wsX1_remove (wsV RX1 58 RX1 yX1_levels wsX1_levels) := gV tml_X1_58 tim_yX1_levels tse_yX1_levels tin_X1 tco_yX1_levels
theorem gX1_remove_X1_firstOf : GoodIn wsX1_remove (va_wsS RX1 82 yX1_firstOf wsX1_firstOf) := gS tml_X1_82 tst_yX1_firstOf tin_X1 tco_yX1_firstOf
theorem gX1_remove_X1_held : GoodIn wsX1_remove (wsV RX1 86 RX1 yX1_held wsX1_held) := gV tml_X1_86 tim_yX1_held tse_yX1_held tin_X1 tco_yX1_held
theorem gX1_remove_X1_fewest : GoodIn wsX1_remove (wsV RX1 107 RX1 yX1_fewest wsX1_fewest) := gV tml_X1_107 tim_yX1_fewest tse_yX1_fewest tin_X1 tco_yX1_fewest
theorem gX1_remove_X1_lift : GoodIn wsX1_remove (wsV RX1 92 RX1 yX1_lift wsX1_lift) := gV tml_X1_92 tim_yX1_lift tse_yX1_lift tin_X1 tco_yX1_lift
theorem gX1_remove_X1_spread : GoodIn wsX1_remove (wsV RX1 100 RX1 yX1_spread wsX1_spread) := gV tml_X1_100 tim_yX1_spread tse_yX1_spread tin_X1 tco_yX1_spread
theorem gX1_drop_X1_ceiling : GoodIn wsX1_drop (wsV RX1 110 RX1 yX1_ceiling wsX1_ceiling) := gV tml_X1_110 tim_yX1_ceiling tse_yX1_ceiling tin_X1 tco_yX1_ceiling
theorem gX1_drop_X1_remove : GoodIn wsX1_drop (wsV RX1 114 RX1 yX1_remove wsX1_remove) := gV tml_X1_114 tim_yX1_remove tse_yX1_remove tin_X1 tco_yX1_remove
theorem gX1_has_X1_cellOf : GoodIn wsX1_has (wsV RX1 79 RX1 yX1_cellOf wsX1_cellOf) := gV tml_X1_79 tim_yX1_cellOf tse_yX1_cellOf tin_X1 tco_yX1_cellOf
theorem gX1_get_X1_cellOf : GoodIn wsX1_get (wsV RX1 79 RX1 yX1_cellOf wsX1_cellOf) := gV tml_X1_79 tim_yX1_cellOf tse_yX1_cellOf tin_X1 tco_yX1_cellOf
theorem gX1_size_X1_held : GoodIn wsX1_size (wsV RX1 86 RX1 yX1_held wsX1_held) := gV tml_X1_86 tim_yX1_held tse_yX1_held tin_X1 tco_yX1_held
theorem gX0_init_J7_fill : GoodIn wsX0_init (va_wsS RX0 15 yJ7_fill_d0a16 wsJ7_fill_d0a16) := gS tml_X0_15 tst_yJ7_fill_d0a16 tin_J7 tco_yJ7_fill_d0a16
theorem gL_law_X0_put : GoodIn TB (wsV RL 23 RX0 yX0_put wsX0_put) := gLess (gV (c1 := .code yX0_put cX0_put 6 (some .int)) tml_L_23 tim_yX0_put tse_yX0_put tin_X0 tco_yX0_put) tco_yX0_put
theorem gL_law_X0_fill : GoodIn TB (wsV RL 28 RX0 yX0_fill wsX0_fill) := gLess (gV (c1 := .code yX0_fill cX0_fill 9 (some .int)) tml_L_28 tim_yX0_fill tse_yX0_fill tin_X0 tco_yX0_fill) tco_yX0_fill
theorem gL_law_X0_remove : GoodIn TB (wsV RL 33 RX0 yX0_remove wsX0_remove) := gLess (gV (c1 := .code yX0_remove cX0_remove 4 (some .boolean)) tml_L_33 tim_yX0_remove tse_yX0_remove tin_X0 tco_yX0_remove) tco_yX0_remove
theorem gL_law_X0_drop : GoodIn TB (wsV RL 38 RX0 yX0_drop wsX0_drop) := gLess (gV (c1 := .code yX0_drop cX0_drop 6 (some .int)) tml_L_38 tim_yX0_drop tse_yX0_drop tin_X0 tco_yX0_drop) tco_yX0_drop
theorem gL_law_X0_has : GoodIn TB (wsV RL 43 RX0 yX0_has wsX0_has) := gLess (gV (c1 := .code yX0_has cX0_has 3 (some .boolean)) tml_L_43 tim_yX0_has tse_yX0_has tin_X0 tco_yX0_has) tco_yX0_has
theorem gL_law_X0_get : GoodIn TB (wsV RL 47 RX0 yX0_get wsX0_get) := gLess (gV (c1 := .code yX0_get cX0_get 4 (some .long)) tml_L_47 tim_yX0_get tse_yX0_get tin_X0 tco_yX0_get) tco_yX0_get
theorem gL_law_X0_floor : GoodIn TB (wsV RL 52 RX0 yX0_floor wsX0_floor) := gLess (gV (c1 := .code yX0_floor cX0_floor 4 (some .long)) tml_L_52 tim_yX0_floor tse_yX0_floor tin_X0 tco_yX0_floor) tco_yX0_floor
theorem gL_law_X0_ceiling : GoodIn TB (wsV RL 56 RX0 yX0_ceiling wsX0_ceiling) := gLess (gV (c1 := .code yX0_ceiling cX0_ceiling 4 (some .long)) tml_L_56 tim_yX0_ceiling tse_yX0_ceiling tin_X0 tco_yX0_ceiling) tco_yX0_ceiling
theorem gL_law_X0_select : GoodIn TB (wsV RL 60 RX0 yX0_select wsX0_select) := gLess (gV (c1 := .code yX0_select cX0_select 4 (some .long)) tml_L_60 tim_yX0_select tse_yX0_select tin_X0 tco_yX0_select) tco_yX0_select
theorem gL_law_X0_count : GoodIn TB (wsV RL 65 RX0 yX0_count wsX0_count) := gLess (gV (c1 := .code yX0_count cX0_count 7 (some .int)) tml_L_65 tim_yX0_count tse_yX0_count tin_X0 tco_yX0_count) tco_yX0_count
theorem gL_law_X0_sum : GoodIn TB (wsV RL 69 RX0 yX0_sum wsX0_sum) := gLess (gV (c1 := .code yX0_sum cX0_sum 8 (some .long)) tml_L_69 tim_yX0_sum tse_yX0_sum tin_X0 tco_yX0_sum) tco_yX0_sum
theorem gL_law_X0_size : GoodIn TB (wsV RL 74 RX0 yX0_size wsX0_size) := gLess (gV (c1 := .code yX0_size cX0_size 1 (some .int)) tml_L_74 tim_yX0_size tse_yX0_size tin_X0 tco_yX0_size) tco_yX0_size
theorem gL_law_X0_cells : GoodIn TB (wsV RL 79 RX0 yX0_cells wsX0_cells) := gLess (gV (c1 := .code yX0_cells cX0_cells 1 (some .int)) tml_L_79 tim_yX0_cells tse_yX0_cells tin_X0 tco_yX0_cells) tco_yX0_cells
theorem gL_law_X0_cellKey : GoodIn TB (wsV RL 83 RX0 yX0_cellKey wsX0_cellKey) := gLess (gV (c1 := .code yX0_cellKey cX0_cellKey 2 (some .long)) tml_L_83 tim_yX0_cellKey tse_yX0_cellKey tin_X0 tco_yX0_cellKey) tco_yX0_cellKey
theorem gL_law_X0_place : GoodIn TB (wsV RL 87 RX0 yX0_place wsX0_place) := gLess (gV (c1 := .code yX0_place cX0_place 2 (some .int)) tml_L_87 tim_yX0_place tse_yX0_place tin_X0 tco_yX0_place) tco_yX0_place
theorem gL_law_X0_borne : GoodIn TB (wsV RL 92 RX0 yX0_borne wsX0_borne) := gLess (gV (c1 := .code yX0_borne cX0_borne 3 (some .long)) tml_L_92 tim_yX0_borne tse_yX0_borne tin_X0 tco_yX0_borne) tco_yX0_borne
theorem gL_law_X0_touched : GoodIn TB (wsV RL 96 RX0 yX0_touched wsX0_touched) := gLess (gV (c1 := .code yX0_touched cX0_touched 8 (some .int)) tml_L_96 tim_yX0_touched tse_yX0_touched tin_X0 tco_yX0_touched) tco_yX0_touched
theorem gL_law_X0_window : GoodIn TB (wsV RL 100 RX0 yX0_window wsX0_window) := gLess (gV (c1 := .code yX0_window cX0_window 1 (some .int)) tml_L_100 tim_yX0_window tse_yX0_window tin_X0 tco_yX0_window) tco_yX0_window
theorem gL_law_X0_moved : GoodIn TB (wsV RL 104 RX0 yX0_moved wsX0_moved) := gLess (gV (c1 := .code yX0_moved cX0_moved 1 (some .long)) tml_L_104 tim_yX0_moved tse_yX0_moved tin_X0 tco_yX0_moved) tco_yX0_moved
theorem gL_law_X1_place : GoodIn TB (wsV RL 91 RX1 yX1_place wsX1_place) := gLess (gV (c1 := .code yX1_place cX1_place 2 (some .int)) tml_L_91 tim_yX1_place tse_yX1_place tin_X1 tco_yX1_place) tco_yX1_place
theorem gL_law_X1_borne : GoodIn TB (wsV RL 95 RX1 yX1_borne wsX1_borne) := gLess (gV (c1 := .code yX1_borne cX1_borne 5 (some .long)) tml_L_95 tim_yX1_borne tse_yX1_borne tin_X1 tco_yX1_borne) tco_yX1_borne
theorem gL_law_X1_touched : GoodIn TB (wsV RL 99 RX1 yX1_touched wsX1_touched) := gLess (gV (c1 := .code yX1_touched cX1_touched 10 (some .int)) tml_L_99 tim_yX1_touched tse_yX1_touched tin_X1 tco_yX1_touched) tco_yX1_touched
theorem gL_law_X1_put : GoodIn TB (wsV RL 27 RX1 yX1_put wsX1_put) := gLess (gV (c1 := .code yX1_put cX1_put 10 (some .int)) tml_L_27 tim_yX1_put tse_yX1_put tin_X1 tco_yX1_put) tco_yX1_put
theorem gL_law_X1_fill : GoodIn TB (wsV RL 32 RX1 yX1_fill wsX1_fill) := gLess (gV (c1 := .code yX1_fill cX1_fill 11 (some .int)) tml_L_32 tim_yX1_fill tse_yX1_fill tin_X1 tco_yX1_fill) tco_yX1_fill
theorem gL_law_X1_remove : GoodIn TB (wsV RL 37 RX1 yX1_remove wsX1_remove) := gLess (gV (c1 := .code yX1_remove cX1_remove 7 (some .boolean)) tml_L_37 tim_yX1_remove tse_yX1_remove tin_X1 tco_yX1_remove) tco_yX1_remove
theorem gL_law_X1_drop : GoodIn TB (wsV RL 42 RX1 yX1_drop wsX1_drop) := gLess (gV (c1 := .code yX1_drop cX1_drop 9 (some .int)) tml_L_42 tim_yX1_drop tse_yX1_drop tin_X1 tco_yX1_drop) tco_yX1_drop
theorem gL_law_X1_has : GoodIn TB (wsV RL 46 RX1 yX1_has wsX1_has) := gLess (gV (c1 := .code yX1_has cX1_has 3 (some .boolean)) tml_L_46 tim_yX1_has tse_yX1_has tin_X1 tco_yX1_has) tco_yX1_has
theorem gL_law_X1_get : GoodIn TB (wsV RL 51 RX1 yX1_get wsX1_get) := gLess (gV (c1 := .code yX1_get cX1_get 4 (some .long)) tml_L_51 tim_yX1_get tse_yX1_get tin_X1 tco_yX1_get) tco_yX1_get
theorem gL_law_X1_floor : GoodIn TB (wsV RL 55 RX1 yX1_floor wsX1_floor) := gLess (gV (c1 := .code yX1_floor cX1_floor 6 (some .long)) tml_L_55 tim_yX1_floor tse_yX1_floor tin_X1 tco_yX1_floor) tco_yX1_floor
theorem gL_law_X1_ceiling : GoodIn TB (wsV RL 59 RX1 yX1_ceiling wsX1_ceiling) := gLess (gV (c1 := .code yX1_ceiling cX1_ceiling 6 (some .long)) tml_L_59 tim_yX1_ceiling tse_yX1_ceiling tin_X1 tco_yX1_ceiling) tco_yX1_ceiling
theorem gL_law_X1_select : GoodIn TB (wsV RL 64 RX1 yX1_select wsX1_select) := gLess (gV (c1 := .code yX1_select cX1_select 6 (some .long)) tml_L_64 tim_yX1_select tse_yX1_select tin_X1 tco_yX1_select) tco_yX1_select
theorem gL_law_X1_count : GoodIn TB (wsV RL 68 RX1 yX1_count wsX1_count) := gLess (gV (c1 := .code yX1_count cX1_count 7 (some .int)) tml_L_68 tim_yX1_count tse_yX1_count tin_X1 tco_yX1_count) tco_yX1_count
theorem gL_law_X1_sum : GoodIn TB (wsV RL 73 RX1 yX1_sum wsX1_sum) := gLess (gV (c1 := .code yX1_sum cX1_sum 8 (some .long)) tml_L_73 tim_yX1_sum tse_yX1_sum tin_X1 tco_yX1_sum) tco_yX1_sum
theorem gL_law_X1_size : GoodIn TB (wsV RL 78 RX1 yX1_size wsX1_size) := gLess (gV (c1 := .code yX1_size cX1_size 1 (some .int)) tml_L_78 tim_yX1_size tse_yX1_size tin_X1 tco_yX1_size) tco_yX1_size
theorem gL_law_X1_cells : GoodIn TB (wsV RL 82 RX1 yX1_cells wsX1_cells) := gLess (gV (c1 := .code yX1_cells cX1_cells 1 (some .int)) tml_L_82 tim_yX1_cells tse_yX1_cells tin_X1 tco_yX1_cells) tco_yX1_cells
theorem gL_law_X1_cellKey : GoodIn TB (wsV RL 86 RX1 yX1_cellKey wsX1_cellKey) := gLess (gV (c1 := .code yX1_cellKey cX1_cellKey 2 (some .long)) tml_L_86 tim_yX1_cellKey tse_yX1_cellKey tin_X1 tco_yX1_cellKey) tco_yX1_cellKey
theorem gL_law_X1_window : GoodIn TB (wsV RL 103 RX1 yX1_window wsX1_window) := gLess (gV (c1 := .code yX1_window cX1_window 1 (some .int)) tml_L_103 tim_yX1_window tse_yX1_window tin_X1 tco_yX1_window) tco_yX1_window
theorem gL_law_X1_moved : GoodIn TB (wsV RL 108 RX1 yX1_moved wsX1_moved) := gLess (gV (c1 := .code yX1_moved cX1_moved 1 (some .long)) tml_L_108 tim_yX1_moved tse_yX1_moved tin_X1 tco_yX1_moved) tco_yX1_moved
end
section
/-! What a state is: of the store (g: the addresses of its four cells, q: the kinds of its arrays), of the reference (six cells). -/
abbrev tS (q : Nat → ClassId) : List (ClassId × FieldType) := [(q 1, .long), (q 2, .long), (q 3, .int)]
abbrev wS (g : Nat → Nat) (q : Nat → ClassId) (kS vS : Nat → Int64) (bS : Nat → Int32) (llS lvS lhS : Int32) (mvS : Int64) : va_W :=
  [(g 0, .inr (0, [.ref (g 1), .ref (g 2), .ref (g 3), .int llS, .int lvS, .int lhS, .long mvS])), (g 1, .inl (q 1, 512, .inr (.inl kS))), (g 2, .inl (q 2, 512, .inr (.inl vS))), (g 3, .inl (q 3, 14, .inl bS))]
abbrev tM (q : Nat → ClassId) : List (ClassId × FieldType) := [(q 1, .boolean), (q 2, .long), (q 3, .long), (q 4, .long), (q 5, .long)]
abbrev wM (g : Nat → Nat) (q : Nat → ClassId) (leM ceM : Int32) (fM : Nat → Int32) (kM vM : Nat → Int64) (wiM : Int32) (moM : Int64) (waM : Int32) (wkM wvM : Nat → Int64) : va_W :=
  [(g 0, .inr (1, [.int leM, .int ceM, .ref (g 1), .ref (g 2), .ref (g 3), .int wiM, .long moM, .int waM, .ref (g 4), .ref (g 5)])), (g 1, .inl (q 1, 512, .inl fM)), (g 2, .inl (q 2, 512, .inr (.inl kM))), (g 3, .inl (q 3, 512, .inr (.inl vM))), (g 4, .inl (q 4, 513, .inr (.inl wkM))), (g 5, .inl (q 5, 513, .inr (.inl wvM)))]
/-! Rows of our own over the kit: a method's entry, its returns, its calls, with one shape of world on both sides. -/
section QR
variable {p : Program} {l : Launch} {e : Env} {R : Room} {s : State} {m : MethodId} {args : Array Value} {below : List Frame} {meth : Method} {c : Code} {H : Heap} {locs : List Loc} {cells slots : Nat} {Q : State → Prop}
variable {cc : ByteArray} {pc : Nat} {ls : Array Slot} {rest st0 : List Value} {D : va_G} {cl : List vw_C} {A : Nat → Prop} {tys : List (ClassId × FieldType)} {ws : va_W} {H0 : Heap}
/-- a method's start: its arguments, the world ws in a heap of sz cells -/
abbrev qP (D : va_G) (cl : List vw_C) (tys : List (ClassId × FieldType)) (ws : va_W) (sz : Nat) (av : List Value) : Array Value → State → Prop :=
  va_Pc av (fun U => U.heap.size = sz ∧ va_P D cl ws U.heap ∧ va_K D cl tys U ∧ va_D (fun _ => True) ws)
/-- the world behind a method -/
abbrev qB {S : Type} (D : va_G) (cl : List vw_C) (tys : List (ClassId × FieldType)) (w1 : S → va_W) (A : Nat → Prop) : S → State → Prop :=
  fun u t => va_P D cl (w1 u) t.heap ∧ va_K D cl tys t ∧ va_D A (w1 u)
theorem q_blind {av : List Value} {sz : Nat} : FrameBlind (qP D cl tys ws sz av) := fun a U g mk q => by
  obtain ⟨q0, q1, qP, qK, qD⟩ := q
  exact ⟨q0, q1, qP, va_K.moved (u := U) (U := U.calling g mk a) (Vm.Alike.refl U.vm) qK, qD⟩
theorem q_pre {av : List Value} (hP : va_P D cl ws H) (hK : va_K D cl tys s) (hD : va_D A ws) : ∀ U : State, U.heap = H → s.WarmedH U.vm → qP D cl tys ws H.size av av.toArray U := fun U hU hW =>
  ⟨rfl, by rw [hU], by rw [hU]; exact hP, va_K.moved hW.alike hK, hD.weaken (fun _ _ _ _ => trivial)⟩
theorem q_enter {y : MethodName} {wq wq' : List Cond} {rm : Room} {maxL : Nat} {ret : Option FieldType} {sz mc ms : Nat} {av : List Value}
    (Qf : (Nat → Prop) → Array Value → State → Outcome → State → Prop) (hy : plainFor y = true) (hw : wq = Cond.code y cc maxL ret :: wq') (hlen : (lg_sl av).length ≤ maxL)
    (body : ∀ (p : Program) (e : Env) (s : State) (m : MethodId) (below : List Frame) (meth : Method) (c : Code) (A : Nat → Prop) (ls : Array Slot),
      p.tables.exec = Jvm.exec → c.code = cc → meth.sig.returnType = ret → c.maxLocals = maxL → s.vm.findClass y.cls = some m.cls → (∀ w ∈ wq, w.before av.toArray s = true) → meth.locks = false → meth.name = y.name →
      va_P D cl ws s.heap → va_K D cl tys s → va_D A ws → (∀ q, s.heap.size ≤ q → A q) → lv_has ls maxL (lv_args 0 av) →
      W p l e rm s m av.toArray below meth c s.heap [] 0 0 (MQ below (Qf A) av.toArray s mc ms A) (F0 m 0 ls [])) :
    Met l y wq rm (qP D cl tys ws sz av) (Qf (va_A ws sz)) mc ms (va_A ws sz) := by
  refine MetFree.of_bodySF (code := cc) (maxLocals := maxL) (ret := ret) hy ?_ ?_
  · intro args s m h hn
    obtain ⟨meth, c, h1, h2, h3, h4, h5, h6, -, -⟩ := Cond.code_spec hn (atoms_spec (ws := wq) h _ (by rw [hw]; exact List.mem_cons_self))
    exact ⟨meth, c, h1, h2, h3, h4, h5, h6⟩
  · intro p e s m args below meth c s₁ B hml hv _
    have hh0 : s₁.heap = s.heap := by rw [B.state]; rfl
    obtain ⟨rfl, hsz, hP, hK, hD0⟩ := hv
    subst hsz
    have hl := lv_entry av (n := maxL) hlen
    have key := body p e s m below meth c (va_A ws s.heap.size) _ B.exec B.bytes B.returns hml (findClass_of_methodNamed B.named) (atoms_spec (ws := wq) B.pre) B.notSynchronized (name_of_methodNamed B.named B.method).1 hP hK (hD0.self (sz := s.heap.size)) (fun q h => Or.inr h) hl
    rw [← lg_entry_eq] at key
    obtain ⟨t, a1, o, b1, b2, b3⟩ := key s₁ hh0 (Stand.of_body B)
    exact ⟨t, o, a1, b1, b2, ⟨b3.1, b3.2⟩⟩
-- returns
theorem q_iret {S : Type} {post : Int32 → S → Prop} {w1 : S → va_W} (u : S) {v : Int32} (hx : p.tables.exec = Jvm.exec) (hb : c.code = cc) (hr : meth.sig.returnType = some .int) (hlocks : meth.locks = false) (hK : va_K D cl tys s) (hdg : decode cc pc = .ok (.ireturn, 1))
    (hS : va_S A s.heap H locs) (hP : va_P D cl (w1 u) H) (hD : va_D A (w1 u)) (hu : post v u) :
    W p l e R s m args below meth c H locs cells slots (MQ below (va_Qi post (qB D cl tys w1 A) A) args s cells slots A) (F0 m pc ls [.int v]) :=
  W.iret hx hb hr (fun _ ht hW => ⟨⟨v, u, rfl, hu, by rw [ht]; exact hP, va_K.moved hW.alike hK, hD⟩, hS.F ht⟩) hS.2.2 hdg hlocks
theorem q_zret {S : Type} {post : Int32 → S → Prop} {w1 : S → va_W} (u : S) {v : Int32} (hx : p.tables.exec = Jvm.exec) (hb : c.code = cc) (hr : meth.sig.returnType = some .boolean) (hn : narrow .boolean (.int v) = .int v) (hlocks : meth.locks = false) (hK : va_K D cl tys s) (hdg : decode cc pc = .ok (.ireturn, 1))
    (hS : va_S A s.heap H locs) (hP : va_P D cl (w1 u) H) (hD : va_D A (w1 u)) (hu : post v u) :
    W p l e R s m args below meth c H locs cells slots (MQ below (va_Qi post (qB D cl tys w1 A) A) args s cells slots A) (F0 m pc ls [.int v]) :=
  W.zret hx hb hr hn (fun _ ht hW => ⟨⟨v, u, rfl, hu, by rw [ht]; exact hP, va_K.moved hW.alike hK, hD⟩, hS.F ht⟩) hS.2.2 hdg hlocks
theorem q_lret {S : Type} {post : Int64 → S → Prop} {w1 : S → va_W} (u : S) {v : Int64} (hx : p.tables.exec = Jvm.exec) (hb : c.code = cc) (hr : meth.sig.returnType = some .long) (hlocks : meth.locks = false) (hK : va_K D cl tys s) (hdg : decode cc pc = .ok (.lreturn, 1))
    (hS : va_S A s.heap H locs) (hP : va_P D cl (w1 u) H) (hD : va_D A (w1 u)) (hu : post v u) :
    W p l e R s m args below meth c H locs cells slots (MQ below (va_Ql post (qB D cl tys w1 A) A) args s cells slots A) (F0 m pc ls [.long v]) :=
  W.lret hx hb hr (fun _ ht hW => ⟨⟨v, u, rfl, hu, by rw [ht]; exact hP, va_K.moved hW.alike hK, hD⟩, hS.F ht⟩) hS.2.2 hdg hlocks
theorem q_vret {S : Type} {post : S → Prop} {w1 : S → va_W} (u : S) (hx : p.tables.exec = Jvm.exec) (hb : c.code = cc) (hr : meth.sig.returnType = none) (hlocks : meth.locks = false) (hK : va_K D cl tys s) (hdg : decode cc pc = .ok (.return_, 1))
    (hS : va_S A s.heap H locs) (hP : va_P D cl (w1 u) H) (hD : va_D A (w1 u)) (hu : post u) :
    W p l e R s m args below meth c H locs cells slots (MQ below (va_Qv post (qB D cl tys w1 A) A) args s cells slots A) (F0 m pc ls []) :=
  W.vret hx hb hr (fun _ ht hW => ⟨⟨u, rfl, hu, by rw [ht]; exact hP, va_K.moved hW.alike hK, hD⟩, hS.F ht⟩) hS.2.2 hdg hlocks
-- lcmp and the branch behind it
theorem q_lc_eq (hx : p.tables.exec = Jvm.exec) (hb : c.code = cc) {x y : Int64} {off : Int} {tgt : Nat} (h1 : decode cc pc = .ok (.lcmp, 1)) (h2 : decode cc (pc + 1) = .ok (.ifCond .eq off, 3)) (ht : ((pc + 1 : Nat) : Int) + off = (tgt : Int))
    (kt : x = y → W p l e R s m args below meth c H locs cells slots Q (F0 m tgt ls rest)) (kf : ¬ x = y → W p l e R s m args below meth c H locs cells slots Q (F0 m (pc + 1 + 3) ls rest)) : W p l e R s m args below meth c H locs cells slots Q (F0 m pc ls (.long y :: .long x :: rest)) :=
  W.lcmp hx hb h1 (lv_if_eq hx hb h2 ht (fun h => kt ((lg_cmp_eq x y).mp h)) (fun h => kf (fun q => h ((lg_cmp_eq x y).mpr q))))
theorem q_lc_ne (hx : p.tables.exec = Jvm.exec) (hb : c.code = cc) {x y : Int64} {off : Int} {tgt : Nat} (h1 : decode cc pc = .ok (.lcmp, 1)) (h2 : decode cc (pc + 1) = .ok (.ifCond .ne off, 3)) (ht : ((pc + 1 : Nat) : Int) + off = (tgt : Int))
    (kt : ¬ x = y → W p l e R s m args below meth c H locs cells slots Q (F0 m tgt ls rest)) (kf : x = y → W p l e R s m args below meth c H locs cells slots Q (F0 m (pc + 1 + 3) ls rest)) : W p l e R s m args below meth c H locs cells slots Q (F0 m pc ls (.long y :: .long x :: rest)) :=
  W.lcmp hx hb h1 (lv_if_ne hx hb h2 ht (fun h => kt (fun q => h ((lg_cmp_eq x y).mpr q))) (fun h => kf ((lg_cmp_eq x y).mp h)))
theorem q_lc_lt (hx : p.tables.exec = Jvm.exec) (hb : c.code = cc) {x y : Int64} {off : Int} {tgt : Nat} (h1 : decode cc pc = .ok (.lcmp, 1)) (h2 : decode cc (pc + 1) = .ok (.ifCond .lt off, 3)) (ht : ((pc + 1 : Nat) : Int) + off = (tgt : Int))
    (kt : x < y → W p l e R s m args below meth c H locs cells slots Q (F0 m tgt ls rest)) (kf : ¬ x < y → W p l e R s m args below meth c H locs cells slots Q (F0 m (pc + 1 + 3) ls rest)) : W p l e R s m args below meth c H locs cells slots Q (F0 m pc ls (.long y :: .long x :: rest)) :=
  W.lcmp hx hb h1 (lv_if_lt hx hb h2 ht (fun h => kt ((lg_cmp_lt x y).mp h)) (fun h => kf (fun q => h ((lg_cmp_lt x y).mpr q))))
theorem q_lc_ge (hx : p.tables.exec = Jvm.exec) (hb : c.code = cc) {x y : Int64} {off : Int} {tgt : Nat} (h1 : decode cc pc = .ok (.lcmp, 1)) (h2 : decode cc (pc + 1) = .ok (.ifCond .ge off, 3)) (ht : ((pc + 1 : Nat) : Int) + off = (tgt : Int))
    (kt : y ≤ x → W p l e R s m args below meth c H locs cells slots Q (F0 m tgt ls rest)) (kf : ¬ y ≤ x → W p l e R s m args below meth c H locs cells slots Q (F0 m (pc + 1 + 3) ls rest)) : W p l e R s m args below meth c H locs cells slots Q (F0 m pc ls (.long y :: .long x :: rest)) :=
  W.lcmp hx hb h1 (lv_if_ge hx hb h2 ht (fun h => kt ((lg_cmp_ge x y).mp h)) (fun h => kf (fun q => h ((lg_cmp_ge x y).mpr q))))
theorem q_lc_gt (hx : p.tables.exec = Jvm.exec) (hb : c.code = cc) {x y : Int64} {off : Int} {tgt : Nat} (h1 : decode cc pc = .ok (.lcmp, 1)) (h2 : decode cc (pc + 1) = .ok (.ifCond .gt off, 3)) (ht : ((pc + 1 : Nat) : Int) + off = (tgt : Int))
    (kt : y < x → W p l e R s m args below meth c H locs cells slots Q (F0 m tgt ls rest)) (kf : ¬ y < x → W p l e R s m args below meth c H locs cells slots Q (F0 m (pc + 1 + 3) ls rest)) : W p l e R s m args below meth c H locs cells slots Q (F0 m pc ls (.long y :: .long x :: rest)) :=
  W.lcmp hx hb h1 (lv_if_gt hx hb h2 ht (fun h => kt ((lg_cmp_gt x y).mp h)) (fun h => kf (fun q => h ((lg_cmp_gt x y).mpr q))))
theorem q_lc_le (hx : p.tables.exec = Jvm.exec) (hb : c.code = cc) {x y : Int64} {off : Int} {tgt : Nat} (h1 : decode cc pc = .ok (.lcmp, 1)) (h2 : decode cc (pc + 1) = .ok (.ifCond .le off, 3)) (ht : ((pc + 1 : Nat) : Int) + off = (tgt : Int))
    (kt : x ≤ y → W p l e R s m args below meth c H locs cells slots Q (F0 m tgt ls rest)) (kf : ¬ x ≤ y → W p l e R s m args below meth c H locs cells slots Q (F0 m (pc + 1 + 3) ls rest)) : W p l e R s m args below meth c H locs cells slots Q (F0 m pc ls (.long y :: .long x :: rest)) :=
  W.lcmp hx hb h1 (lv_if_le hx hb h2 ht (fun h => kt ((lg_cmp_le x y).mp h)) (fun h => kf (fun q => h ((lg_cmp_le x y).mpr q))))
end QR
section QC
variable {p : Program} {l : Launch} {e : Env} {R : Room} {s : State} {m : MethodId} {args : Array Value} {below : List Frame} {meth : Method} {c : Code} {H : Heap} {locs : List Loc} {cells slots : Nat} {Q : State → Prop}
variable {cc bytes : ByteArray} {pc maxL nL n index : Nat} {ls : Array Slot} {rest st0 As : List Value} {D : va_G} {cl : List vw_C} {A0 : Nat → Prop} {tysc : List (ClassId × FieldType)} {ws wc wr : va_W} {H0 : Heap} {y : MethodName} {wq Ts : List Cond} {rm : Room} {ret : Option FieldType} {own C : String} {b : Nat}
theorem q_callVi {S : Type} {post : Int32 → S → Prop} {w1 : S → va_W} (isC isR : List Nat) (hF : CallFix p m c cc nL s args Ts own)
    (hM : Met l y wq rm (qP D cl tysc wc H.size (.ref b :: As)) (va_Qi post (qB D cl tysc w1 (va_A wc H.size)) (va_A wc H.size)) 0 0 (va_A wc H.size))
    (cw : CallW R s args own C index y bytes maxL ret wq rm 0 0 n) (hrec : ∃ cell : Cell, H[b]? = some cell ∧ cell.vm.isStatics = false ∧ s.vm.findClass C = some cell.cls) (hK : va_K D cl tysc s) (hP : va_P D cl ws H) (hD : va_D A0 ws) (hS : va_S A0 H0 H locs) (hA : ∀ q, H0.size ≤ q → A0 q)
    (hC2 : isC.filterMap (fun i => ws[i]?) = wc) (hC : isC.map (fun i => ws[i]?) = wc.map some) (hR : isR.map (fun i => ws[i]?) = wr.map some) (hnC : va_nd isC = true) (hn : va_nd isR = true) (hdis : ∀ i ∈ isR, i ∉ isC)
    (hlen : As.length = n) (hsize : ls.size = nL) (hst : st0 = As.reverse ++ .ref b :: rest) (hW : (rest.map fun v => v.category).sum ≤ 8) (hdg : decode cc pc = .ok (.invokevirtual index, 3)) (hf : cells ≤ R.cells ∧ slots ≤ R.slots)
    (kk : ∀ (r : Int32) (u : S) (H1 : Heap) (locs1 : List Loc), post r u → va_P D cl (wr ++ w1 u) H1 → va_D A0 (wr ++ w1 u) → va_S A0 H0 H1 locs1 → W p l e R s m args below meth c H1 locs1 cells slots Q (F0 m (pc + 3) ls (.int r :: rest))) :
    W p l e R s m args below meth c H locs cells slots Q (F0 m pc ls st0) := by
  have hFc := va_free (wc := wc) hD hS hA isC hC
  refine va_calli (va_runV hF hM cw ⟨q_blind, hrec, q_pre (hP.sub isC hC2) hK (hD.sub isC hnC hC)⟩ rfl hlen hsize hst (lv_room hW) hdg hf) hS (fun q _ h => hFc q h) hFc (fun r u t H1 locs1 ht hvm hw hB hz1 hk1 hS1 => ?_)
  obtain ⟨hP1, hK1, hD1⟩ := hB
  rw [ht] at hP1
  obtain ⟨hP2, hD2⟩ := va_join (wr := wr) hP hD isC isR hC hR hn hdis hk1 hFc hP1 hD1
  exact kk r u H1 locs1 hw hP2 hD2 hS1
theorem q_callSi {S : Type} {post : Int32 → S → Prop} {w1 : S → va_W} (isC isR : List Nat) (hF : CallFix p m c cc nL s args Ts own)
    (hM : Met l y wq rm (qP D cl tysc wc H.size As) (va_Qi post (qB D cl tysc w1 (va_A wc H.size)) (va_A wc H.size)) 0 0 (va_A wc H.size))
    (cw : CallB R s args own index y bytes maxL ret wq rm 0 0 n ∧ (Cond.static y).before args s = true) (hK : va_K D cl tysc s) (hP : va_P D cl ws H) (hD : va_D A0 ws) (hS : va_S A0 H0 H locs) (hA : ∀ q, H0.size ≤ q → A0 q)
    (hC2 : isC.filterMap (fun i => ws[i]?) = wc) (hC : isC.map (fun i => ws[i]?) = wc.map some) (hR : isR.map (fun i => ws[i]?) = wr.map some) (hnC : va_nd isC = true) (hn : va_nd isR = true) (hdis : ∀ i ∈ isR, i ∉ isC)
    (hlen : As.length = n) (hsize : ls.size = nL) (hst : st0 = As.reverse ++ rest) (hW : (rest.map fun v => v.category).sum ≤ 8) (hdg : decode cc pc = .ok (.invokestatic index, 3)) (hf : cells ≤ R.cells ∧ slots ≤ R.slots)
    (kk : ∀ (r : Int32) (u : S) (H1 : Heap) (locs1 : List Loc), post r u → va_P D cl (wr ++ w1 u) H1 → va_D A0 (wr ++ w1 u) → va_S A0 H0 H1 locs1 → W p l e R s m args below meth c H1 locs1 cells slots Q (F0 m (pc + 3) ls (.int r :: rest))) :
    W p l e R s m args below meth c H locs cells slots Q (F0 m pc ls st0) := by
  have hFc := va_free (wc := wc) hD hS hA isC hC
  refine va_calli (va_runS hF hM cw ⟨q_blind, q_pre (hP.sub isC hC2) hK (hD.sub isC hnC hC)⟩ rfl hlen hsize hst (lv_room hW) hdg hf) hS (fun q _ h => hFc q h) hFc (fun r u t H1 locs1 ht hvm hw hB hz1 hk1 hS1 => ?_)
  obtain ⟨hP1, hK1, hD1⟩ := hB
  rw [ht] at hP1
  obtain ⟨hP2, hD2⟩ := va_join (wr := wr) hP hD isC isR hC hR hn hdis hk1 hFc hP1 hD1
  exact kk r u H1 locs1 hw hP2 hD2 hS1
theorem q_callVl {S : Type} {post : Int64 → S → Prop} {w1 : S → va_W} (isC isR : List Nat) (hF : CallFix p m c cc nL s args Ts own)
    (hM : Met l y wq rm (qP D cl tysc wc H.size (.ref b :: As)) (va_Ql post (qB D cl tysc w1 (va_A wc H.size)) (va_A wc H.size)) 0 0 (va_A wc H.size))
    (cw : CallW R s args own C index y bytes maxL ret wq rm 0 0 n) (hrec : ∃ cell : Cell, H[b]? = some cell ∧ cell.vm.isStatics = false ∧ s.vm.findClass C = some cell.cls) (hK : va_K D cl tysc s) (hP : va_P D cl ws H) (hD : va_D A0 ws) (hS : va_S A0 H0 H locs) (hA : ∀ q, H0.size ≤ q → A0 q)
    (hC2 : isC.filterMap (fun i => ws[i]?) = wc) (hC : isC.map (fun i => ws[i]?) = wc.map some) (hR : isR.map (fun i => ws[i]?) = wr.map some) (hnC : va_nd isC = true) (hn : va_nd isR = true) (hdis : ∀ i ∈ isR, i ∉ isC)
    (hlen : As.length = n) (hsize : ls.size = nL) (hst : st0 = As.reverse ++ .ref b :: rest) (hW : (rest.map fun v => v.category).sum ≤ 8) (hdg : decode cc pc = .ok (.invokevirtual index, 3)) (hf : cells ≤ R.cells ∧ slots ≤ R.slots)
    (kk : ∀ (r : Int64) (u : S) (H1 : Heap) (locs1 : List Loc), post r u → va_P D cl (wr ++ w1 u) H1 → va_D A0 (wr ++ w1 u) → va_S A0 H0 H1 locs1 → W p l e R s m args below meth c H1 locs1 cells slots Q (F0 m (pc + 3) ls (.long r :: rest))) :
    W p l e R s m args below meth c H locs cells slots Q (F0 m pc ls st0) := by
  have hFc := va_free (wc := wc) hD hS hA isC hC
  refine va_calll (va_runV hF hM cw ⟨q_blind, hrec, q_pre (hP.sub isC hC2) hK (hD.sub isC hnC hC)⟩ rfl hlen hsize hst (lv_room hW) hdg hf) hS (fun q _ h => hFc q h) hFc (fun r u t H1 locs1 ht hvm hw hB hz1 hk1 hS1 => ?_)
  obtain ⟨hP1, hK1, hD1⟩ := hB
  rw [ht] at hP1
  obtain ⟨hP2, hD2⟩ := va_join (wr := wr) hP hD isC isR hC hR hn hdis hk1 hFc hP1 hD1
  exact kk r u H1 locs1 hw hP2 hD2 hS1
theorem q_callSl {S : Type} {post : Int64 → S → Prop} {w1 : S → va_W} (isC isR : List Nat) (hF : CallFix p m c cc nL s args Ts own)
    (hM : Met l y wq rm (qP D cl tysc wc H.size As) (va_Ql post (qB D cl tysc w1 (va_A wc H.size)) (va_A wc H.size)) 0 0 (va_A wc H.size))
    (cw : CallB R s args own index y bytes maxL ret wq rm 0 0 n ∧ (Cond.static y).before args s = true) (hK : va_K D cl tysc s) (hP : va_P D cl ws H) (hD : va_D A0 ws) (hS : va_S A0 H0 H locs) (hA : ∀ q, H0.size ≤ q → A0 q)
    (hC2 : isC.filterMap (fun i => ws[i]?) = wc) (hC : isC.map (fun i => ws[i]?) = wc.map some) (hR : isR.map (fun i => ws[i]?) = wr.map some) (hnC : va_nd isC = true) (hn : va_nd isR = true) (hdis : ∀ i ∈ isR, i ∉ isC)
    (hlen : As.length = n) (hsize : ls.size = nL) (hst : st0 = As.reverse ++ rest) (hW : (rest.map fun v => v.category).sum ≤ 8) (hdg : decode cc pc = .ok (.invokestatic index, 3)) (hf : cells ≤ R.cells ∧ slots ≤ R.slots)
    (kk : ∀ (r : Int64) (u : S) (H1 : Heap) (locs1 : List Loc), post r u → va_P D cl (wr ++ w1 u) H1 → va_D A0 (wr ++ w1 u) → va_S A0 H0 H1 locs1 → W p l e R s m args below meth c H1 locs1 cells slots Q (F0 m (pc + 3) ls (.long r :: rest))) :
    W p l e R s m args below meth c H locs cells slots Q (F0 m pc ls st0) := by
  have hFc := va_free (wc := wc) hD hS hA isC hC
  refine va_calll (va_runS hF hM cw ⟨q_blind, q_pre (hP.sub isC hC2) hK (hD.sub isC hnC hC)⟩ rfl hlen hsize hst (lv_room hW) hdg hf) hS (fun q _ h => hFc q h) hFc (fun r u t H1 locs1 ht hvm hw hB hz1 hk1 hS1 => ?_)
  obtain ⟨hP1, hK1, hD1⟩ := hB
  rw [ht] at hP1
  obtain ⟨hP2, hD2⟩ := va_join (wr := wr) hP hD isC isR hC hR hn hdis hk1 hFc hP1 hD1
  exact kk r u H1 locs1 hw hP2 hD2 hS1
theorem q_callVv {S : Type} {post : S → Prop} {w1 : S → va_W} (isC isR : List Nat) (hF : CallFix p m c cc nL s args Ts own)
    (hM : Met l y wq rm (qP D cl tysc wc H.size (.ref b :: As)) (va_Qv post (qB D cl tysc w1 (va_A wc H.size)) (va_A wc H.size)) 0 0 (va_A wc H.size))
    (cw : CallW R s args own C index y bytes maxL ret wq rm 0 0 n) (hrec : ∃ cell : Cell, H[b]? = some cell ∧ cell.vm.isStatics = false ∧ s.vm.findClass C = some cell.cls) (hK : va_K D cl tysc s) (hP : va_P D cl ws H) (hD : va_D A0 ws) (hS : va_S A0 H0 H locs) (hA : ∀ q, H0.size ≤ q → A0 q)
    (hC2 : isC.filterMap (fun i => ws[i]?) = wc) (hC : isC.map (fun i => ws[i]?) = wc.map some) (hR : isR.map (fun i => ws[i]?) = wr.map some) (hnC : va_nd isC = true) (hn : va_nd isR = true) (hdis : ∀ i ∈ isR, i ∉ isC)
    (hlen : As.length = n) (hsize : ls.size = nL) (hst : st0 = As.reverse ++ .ref b :: rest) (hW : (rest.map fun v => v.category).sum ≤ 8) (hdg : decode cc pc = .ok (.invokevirtual index, 3)) (hf : cells ≤ R.cells ∧ slots ≤ R.slots)
    (kk : ∀ (u : S) (H1 : Heap) (locs1 : List Loc), post u → va_P D cl (wr ++ w1 u) H1 → va_D A0 (wr ++ w1 u) → va_S A0 H0 H1 locs1 → W p l e R s m args below meth c H1 locs1 cells slots Q (F0 m (pc + 3) ls (rest))) :
    W p l e R s m args below meth c H locs cells slots Q (F0 m pc ls st0) := by
  have hFc := va_free (wc := wc) hD hS hA isC hC
  refine va_callv (va_runV hF hM cw ⟨q_blind, hrec, q_pre (hP.sub isC hC2) hK (hD.sub isC hnC hC)⟩ rfl hlen hsize hst (lv_room hW) hdg hf) hS (fun q _ h => hFc q h) hFc (fun u t H1 locs1 ht hvm hw hB hz1 hk1 hS1 => ?_)
  obtain ⟨hP1, hK1, hD1⟩ := hB
  rw [ht] at hP1
  obtain ⟨hP2, hD2⟩ := va_join (wr := wr) hP hD isC isR hC hR hn hdis hk1 hFc hP1 hD1
  exact kk u H1 locs1 hw hP2 hD2 hS1
theorem q_callSv {S : Type} {post : S → Prop} {w1 : S → va_W} (isC isR : List Nat) (hF : CallFix p m c cc nL s args Ts own)
    (hM : Met l y wq rm (qP D cl tysc wc H.size As) (va_Qv post (qB D cl tysc w1 (va_A wc H.size)) (va_A wc H.size)) 0 0 (va_A wc H.size))
    (cw : CallB R s args own index y bytes maxL ret wq rm 0 0 n ∧ (Cond.static y).before args s = true) (hK : va_K D cl tysc s) (hP : va_P D cl ws H) (hD : va_D A0 ws) (hS : va_S A0 H0 H locs) (hA : ∀ q, H0.size ≤ q → A0 q)
    (hC2 : isC.filterMap (fun i => ws[i]?) = wc) (hC : isC.map (fun i => ws[i]?) = wc.map some) (hR : isR.map (fun i => ws[i]?) = wr.map some) (hnC : va_nd isC = true) (hn : va_nd isR = true) (hdis : ∀ i ∈ isR, i ∉ isC)
    (hlen : As.length = n) (hsize : ls.size = nL) (hst : st0 = As.reverse ++ rest) (hW : (rest.map fun v => v.category).sum ≤ 8) (hdg : decode cc pc = .ok (.invokestatic index, 3)) (hf : cells ≤ R.cells ∧ slots ≤ R.slots)
    (kk : ∀ (u : S) (H1 : Heap) (locs1 : List Loc), post u → va_P D cl (wr ++ w1 u) H1 → va_D A0 (wr ++ w1 u) → va_S A0 H0 H1 locs1 → W p l e R s m args below meth c H1 locs1 cells slots Q (F0 m (pc + 3) ls (rest))) :
    W p l e R s m args below meth c H locs cells slots Q (F0 m pc ls st0) := by
  have hFc := va_free (wc := wc) hD hS hA isC hC
  refine va_callv (va_runS hF hM cw ⟨q_blind, q_pre (hP.sub isC hC2) hK (hD.sub isC hnC hC)⟩ rfl hlen hsize hst (lv_room hW) hdg hf) hS (fun q _ h => hFc q h) hFc (fun u t H1 locs1 ht hvm hw hB hz1 hk1 hS1 => ?_)
  obtain ⟨hP1, hK1, hD1⟩ := hB
  rw [ht] at hP1
  obtain ⟨hP2, hD2⟩ := va_join (wr := wr) hP hD isC isR hC hR hn hdis hk1 hFc hP1 hD1
  exact kk u H1 locs1 hw hP2 hD2 hS1
end QC
end
section
def wp_S_segments (lvS : Int32) (post : Int32 → Prop) : Prop := post ((1 : Int32) <<< (lvS &&& 31))
def wp_S_depthOf_L6 (post : Int32 → Prop) : Nat → Int32 → Int32 → Prop
  | 0, _, _ => False
  | n + 1, x1, x2 => (x2 < 1 → (post x1)) ∧ (¬ x2 < 1 → (wp_S_depthOf_L6 post n (x1 + 1) (x2 / 2)))
def wp_S_depthOf (a0 : Int32) (post : Int32 → Prop) : Prop := ∃ n0 : Nat, wp_S_depthOf_L6 post n0 0 (a0 / 2)
def wp_S_windowCells (a0 : Int32) (post : Int32 → Prop) : Prop := post ((8 : Int32) <<< (a0 &&& 31))
def wp_S_greatestKey_L6 (kS : Nat → Int64) (x1 : Int32) (post : Int64 → Prop) : Nat → Int32 → Prop
  | 0, _ => False
  | n + 1, x3 => (x3 < x1 → (post NOK)) ∧ (¬ x3 < x1 → (vp_in x3 512 ∧ (((kS x3.toNatClampNeg) = NOK → (wp_S_greatestKey_L6 kS x1 post n (x3 + (-1)))) ∧ (¬ (kS x3.toNatClampNeg) = NOK → (post (kS x3.toNatClampNeg))))))
def wp_S_greatestKey (kS : Nat → Int64) (a1 : Int32) (a2 : Int32) (post : Int64 → Prop) : Prop := ∃ n0 : Nat, wp_S_greatestKey_L6 kS a1 post n0 ((a1 + a2) - 1)
def wp_S_borneBy (kS : Nat → Int64) (lvS : Int32) (a1 : Int32) (post : Int64 → Prop) : Prop := wp_S_depthOf a1 (fun r_1 => wp_S_segments lvS (fun r_2 => wp_S_windowCells ((lvS - r_1) - 1) (fun r_3 => wp_S_greatestKey kS ((((2 * a1) <<< (((lvS - r_1) - 1) &&& 31)) - r_2) * 8) r_3 (fun r_4 => post r_4))))
def wp_S_seek_L5 (kS : Nat → Int64) (lvS : Int32) (x1 : Int64) (post : Int32 → Prop) : Nat → Int32 → Int32 → Prop
  | 0, _, _ => False
  | n + 1, x3, x4 => (lvS ≤ x4 → (wp_S_segments lvS (fun r_2 => post (x3 - r_2)))) ∧ (¬ lvS ≤ x4 → (wp_S_borneBy kS lvS x3 (fun r_3 => (r_3 = NOK → (wp_S_seek_L5 kS lvS x1 post n ((2 * x3) + 1) (x4 + 1))) ∧ (¬ r_3 = NOK → ((r_3 < x1 → (wp_S_seek_L5 kS lvS x1 post n ((2 * x3) + 1) (x4 + 1))) ∧ (¬ r_3 < x1 → (wp_S_seek_L5 kS lvS x1 post n (2 * x3) (x4 + 1))))))))
def wp_S_seek (kS : Nat → Int64) (lvS : Int32) (a1 : Int64) (post : Int32 → Prop) : Prop := ∃ n0 : Nat, wp_S_seek_L5 kS lvS a1 post n0 1 0
def wp_S_cellNotBelow_L12 (kS : Nat → Int64) (lvS : Int32) (x1 : Int64) (x3 : Int32) (post : Int32 → Prop) : Nat → Int32 → Prop
  | 0, _ => False
  | n + 1, x4 => ((x3 + 8) ≤ x4 → (post (-1))) ∧ (¬ (x3 + 8) ≤ x4 → (vp_in x4 512 ∧ (((kS x4.toNatClampNeg) = NOK → (wp_S_cellNotBelow_L12 kS lvS x1 x3 post n (x4 + 1))) ∧ (¬ (kS x4.toNatClampNeg) = NOK → (((kS x4.toNatClampNeg) < x1 → (wp_S_cellNotBelow_L12 kS lvS x1 x3 post n (x4 + 1))) ∧ (¬ (kS x4.toNatClampNeg) < x1 → (post x4)))))))
def wp_S_cellNotBelow (kS : Nat → Int64) (lvS : Int32) (a1 : Int64) (post : Int32 → Prop) : Prop := wp_S_seek kS lvS a1 (fun r_1 => ∃ n0 : Nat, wp_S_cellNotBelow_L12 kS lvS a1 (r_1 * 8) post n0 (r_1 * 8))
def wp_S_cellOf (kS : Nat → Int64) (lvS : Int32) (a1 : Int64) (post : Int32 → Prop) : Prop := wp_S_cellNotBelow kS lvS a1 (fun r_1 => (r_1 = (-1) → (post (-1))) ∧ (¬ r_1 = (-1) → (vp_in r_1 512 ∧ (((kS r_1.toNatClampNeg) = a1 → (post r_1)) ∧ (¬ (kS r_1.toNatClampNeg) = a1 → (post (-1)))))))
def wp_S_firstCell (a0 : Int32) (a1 : Int32) (post : Int32 → Prop) : Prop := wp_S_windowCells a1 (fun r_1 => post ((a0 >>> (a1 &&& 31)) * r_1))
def wp_S_keysAmong_L5 (kS : Nat → Int64) (x1 : Int32) (x2 : Int32) (post : Int32 → Prop) : Nat → Int32 → Int32 → Prop
  | 0, _, _ => False
  | n + 1, x3, x4 => ((x1 + x2) ≤ x4 → (post x3)) ∧ (¬ (x1 + x2) ≤ x4 → (vp_in x4 512 ∧ (((kS x4.toNatClampNeg) = NOK → (wp_S_keysAmong_L5 kS x1 x2 post n x3 (x4 + 1))) ∧ (¬ (kS x4.toNatClampNeg) = NOK → (wp_S_keysAmong_L5 kS x1 x2 post n (x3 + 1) (x4 + 1))))))
def wp_S_keysAmong (kS : Nat → Int64) (a1 : Int32) (a2 : Int32) (post : Int32 → Prop) : Prop := ∃ n0 : Nat, wp_S_keysAmong_L5 kS a1 a2 post n0 0 a1
def wp_S_keysInWindow (kS : Nat → Int64) (a1 : Int32) (a2 : Int32) (post : Int32 → Prop) : Prop := wp_S_firstCell a1 a2 (fun r_1 => wp_S_windowCells a2 (fun r_2 => wp_S_keysAmong kS r_1 r_2 (fun r_3 => post r_3)))
def wp_S_mostKeys (lvS : Int32) (a1 : Int32) (post : Int32 → Prop) : Prop := wp_S_windowCells a1 (fun r_1 => ¬ (4 * lvS) = 0 ∧ (post ((r_1 * ((4 * lvS) - a1)) / (4 * lvS))))
def wp_S_heightWithRoom_L2 (kS : Nat → Int64) (lvS : Int32) (x1 : Int32) (post : Int32 → Prop) : Nat → Int32 → Prop
  | 0, _ => False
  | n + 1, x2 => (lvS < x2 → (post (-1))) ∧ (¬ lvS < x2 → (wp_S_keysInWindow kS x1 x2 (fun r_2 => wp_S_mostKeys lvS x2 (fun r_3 => (r_3 < (r_2 + 1) → (wp_S_heightWithRoom_L2 kS lvS x1 post n (x2 + 1))) ∧ (¬ r_3 < (r_2 + 1) → (post x2))))))
def wp_S_heightWithRoom (kS : Nat → Int64) (lvS : Int32) (a1 : Int32) (post : Int32 → Prop) : Prop := ∃ n0 : Nat, wp_S_heightWithRoom_L2 kS lvS a1 post n0 0
def wp_S_clear (kS : Nat → Int64) (vS : Nat → Int64) (a1 : Int32) (post : (Nat → Int64) → (Nat → Int64) → Prop) : Prop := vp_in a1 512 ∧ (post (vp_updL kS a1.toNatClampNeg NOK) (vp_updL vS a1.toNatClampNeg 0))
def wp_S_shift (kS : Nat → Int64) (vS : Nat → Int64) (a1 : Int32) (a2 : Int32) (post : (Nat → Int64) → (Nat → Int64) → Prop) : Prop := (a1 = a2 → (post kS vS)) ∧ (¬ a1 = a2 → (vp_in a1 512 ∧ (vp_in a2 512 ∧ (wp_S_clear (vp_updL kS a2.toNatClampNeg (kS a1.toNatClampNeg)) (vp_updL vS a2.toNatClampNeg (vS a1.toNatClampNeg)) a1 (fun kS_4 vS_5 => post kS_4 vS_5)))))
def wp_S_pack_L5 (x1 : Int32) (x2 : Int32) (post : Int32 → (Nat → Int64) → (Nat → Int64) → Prop) : Nat → Int32 → Int32 → (Nat → Int64) → (Nat → Int64) → Prop
  | 0, _, _, _, _ => False
  | n + 1, x3, x4, kS, vS => ((x1 + x2) ≤ x4 → (post (x3 - x1) kS vS)) ∧ (¬ (x1 + x2) ≤ x4 → (vp_in x4 512 ∧ (((kS x4.toNatClampNeg) = NOK → (wp_S_pack_L5 x1 x2 post n x3 (x4 + 1) kS vS)) ∧ (¬ (kS x4.toNatClampNeg) = NOK → (wp_S_shift kS vS x4 x3 (fun kS_4 vS_5 => wp_S_pack_L5 x1 x2 post n (x3 + 1) (x4 + 1) kS_4 vS_5))))))
def wp_S_pack (kS : Nat → Int64) (vS : Nat → Int64) (a1 : Int32) (a2 : Int32) (post : Int32 → (Nat → Int64) → (Nat → Int64) → Prop) : Prop := ∃ n0 : Nat, wp_S_pack_L5 a1 a2 post n0 a1 a1 kS vS
def wp_S_insertPacked_L5 (x1 : Int32) (x3 : Int64) (x5 : Int64) (post : (Nat → Int64) → (Nat → Int64) → Prop) : Nat → Int32 → (Nat → Int64) → (Nat → Int64) → Prop
  | 0, _, _, _ => False
  | n + 1, x7, kS, vS => (x7 ≤ x1 → (vp_in x7 512 ∧ (post (vp_updL kS x7.toNatClampNeg x3) (vp_updL vS x7.toNatClampNeg x5)))) ∧ (¬ x7 ≤ x1 → (vp_in (x7 - 1) 512 ∧ (((kS (x7 - 1).toNatClampNeg) ≤ x3 → (vp_in x7 512 ∧ (post (vp_updL kS x7.toNatClampNeg x3) (vp_updL vS x7.toNatClampNeg x5)))) ∧ (¬ (kS (x7 - 1).toNatClampNeg) ≤ x3 → (wp_S_shift kS vS (x7 - 1) x7 (fun kS_6 vS_7 => wp_S_insertPacked_L5 x1 x3 x5 post n (x7 + (-1)) kS_6 vS_7))))))
def wp_S_insertPacked (kS : Nat → Int64) (vS : Nat → Int64) (a1 : Int32) (a2 : Int32) (a3 : Int64) (a5 : Int64) (post : (Nat → Int64) → (Nat → Int64) → Prop) : Prop := ∃ n0 : Nat, wp_S_insertPacked_L5 a1 a3 a5 post n0 (a1 + a2) kS vS
def wp_S_spreadPacked_L5 (x1 : Int32) (x2 : Int32) (x3 : Int32) (post : (Nat → Int64) → (Nat → Int64) → (Int32) → (Int64) → Prop) : Nat → Int32 → (Nat → Int64) → (Nat → Int64) → (Int32) → (Int64) → Prop
  | 0, _, _, _, _, _ => False
  | n + 1, x4, kS, vS, lhS, mvS => (x4 < 0 → (post kS vS x2 (mvS + x3.toInt64))) ∧ (¬ x4 < 0 → (wp_S_windowCells x2 (fun r_2 => ¬ x3 = 0 ∧ (wp_S_shift kS vS (x1 + x4) (x1 + ((x4 * r_2) / x3)) (fun kS_4 vS_5 => wp_S_spreadPacked_L5 x1 x2 x3 post n (x4 + (-1)) kS_4 vS_5 lhS mvS)))))
def wp_S_spreadPacked (kS : Nat → Int64) (vS : Nat → Int64) (lhS : Int32) (mvS : Int64) (a1 : Int32) (a2 : Int32) (a3 : Int32) (post : (Nat → Int64) → (Nat → Int64) → (Int32) → (Int64) → Prop) : Prop := ∃ n0 : Nat, wp_S_spreadPacked_L5 a1 a2 a3 post n0 (a3 - 1) kS vS lhS mvS
def wp_S_cells (lvS : Int32) (post : Int32 → Prop) : Prop := wp_S_windowCells lvS (fun r_1 => post r_1)
def wp_S_putNew (kS : Nat → Int64) (vS : Nat → Int64) (lvS : Int32) (lhS : Int32) (mvS : Int64) (a1 : Int64) (a3 : Int64) (post : Int32 → (Nat → Int64) → (Nat → Int64) → (Int32) → (Int32) → (Int64) → Prop) : Prop := wp_S_seek kS lvS a1 (fun r_1 => wp_S_heightWithRoom kS lvS r_1 (fun r_2 => (r_2 = (-1) → (wp_S_cells lvS (fun r_15 => (r_15 = 512 → (post 0 kS vS lvS lhS mvS)) ∧ (¬ r_15 = 512 → (wp_S_firstCell r_1 (lvS + 1) (fun r_17 => wp_S_windowCells (lvS + 1) (fun r_18 => wp_S_pack kS vS r_17 r_18 (fun r_19 kS_20 vS_21 => wp_S_insertPacked kS_20 vS_21 r_17 r_19 a1 a3 (fun kS_22 vS_23 => wp_S_spreadPacked kS_22 vS_23 lhS mvS r_17 (lvS + 1) (r_19 + 1) (fun kS_24 vS_25 lhS_26 mvS_27 => post 1 kS_24 vS_25 (lvS + 1) lhS_26 mvS_27)))))))))) ∧ (¬ r_2 = (-1) → (wp_S_firstCell r_1 r_2 (fun r_4 => wp_S_windowCells r_2 (fun r_5 => wp_S_pack kS vS r_4 r_5 (fun r_6 kS_7 vS_8 => wp_S_insertPacked kS_7 vS_8 r_4 r_6 a1 a3 (fun kS_9 vS_10 => wp_S_spreadPacked kS_9 vS_10 lhS mvS r_4 r_2 (r_6 + 1) (fun kS_11 vS_12 lhS_13 mvS_14 => post 1 kS_11 vS_12 lvS lhS_13 mvS_14)))))))))
def wp_S_put (kS : Nat → Int64) (vS : Nat → Int64) (lvS : Int32) (lhS : Int32) (mvS : Int64) (a1 : Int64) (a3 : Int64) (post : Int32 → (Nat → Int64) → (Nat → Int64) → (Int32) → (Int32) → (Int64) → Prop) : Prop := (a1 = NOK → (post (-1) kS vS lvS lhS mvS)) ∧ (¬ a1 = NOK → (wp_S_cellOf kS lvS a1 (fun r_2 => (r_2 = (-1) → (wp_S_putNew kS vS lvS lhS mvS a1 a3 (fun r_4 kS_5 vS_6 lvS_7 lhS_8 mvS_9 => (r_4 = 0 → (post (-1) kS_5 vS_6 lvS_7 lhS_8 mvS_9)) ∧ (¬ r_4 = 0 → (post 1 kS_5 vS_6 lvS_7 lhS_8 mvS_9))))) ∧ (¬ r_2 = (-1) → (vp_in r_2 512 ∧ (post 0 kS (vp_updL vS r_2.toNatClampNeg a3) lvS lhS mvS))))))
def wp_S_fill_L20 (x1 : Int64) (x3 : Int64) (x5 : Int32) (post : Int32 → (Nat → Int64) → (Nat → Int64) → (Int32) → (Int32) → (Int64) → Prop) : Nat → Int32 → Int32 → (Nat → Int64) → (Nat → Int64) → (Int32) → (Int32) → (Int64) → Prop
  | 0, _, _, _, _, _, _, _ => False
  | n + 1, x6, x7, kS, vS, lvS, lhS, mvS => (x5 ≤ x7 → (post x6 kS vS lvS lhS mvS)) ∧ (¬ x5 ≤ x7 → (wp_S_put kS vS lvS lhS mvS (x1 + (x7.toInt64 * x3)) x7.toInt64 (fun r_4 kS_5 vS_6 lvS_7 lhS_8 mvS_9 => (r_4 = (-1) → (post x6 kS_5 vS_6 lvS_7 lhS_8 mvS_9)) ∧ (¬ r_4 = (-1) → (wp_S_fill_L20 x1 x3 x5 post n (x6 + r_4) (x7 + 1) kS_5 vS_6 lvS_7 lhS_8 mvS_9)))))
def wp_S_fill (kS : Nat → Int64) (vS : Nat → Int64) (lvS : Int32) (lhS : Int32) (mvS : Int64) (a1 : Int64) (a3 : Int64) (a5 : Int32) (post : Int32 → (Nat → Int64) → (Nat → Int64) → (Int32) → (Int32) → (Int64) → Prop) : Prop := (a5 < 0 → (post (-1) kS vS lvS lhS mvS)) ∧ (¬ a5 < 0 → ((a5 ≤ 64 → (∃ n0 : Nat, wp_S_fill_L20 a1 a3 a5 post n0 0 0 kS vS lvS lhS mvS)) ∧ (¬ a5 ≤ 64 → (post (-1) kS vS lvS lhS mvS))))
def wp_S_fewestKeys (lvS : Int32) (a1 : Int32) (post : Int32 → Prop) : Prop := wp_S_windowCells a1 (fun r_1 => ¬ (8 * lvS) = 0 ∧ (post ((((r_1 * (lvS + a1)) + (8 * lvS)) - 1) / (8 * lvS))))
def wp_S_heightWithEnough_L2 (kS : Nat → Int64) (lvS : Int32) (x1 : Int32) (post : Int32 → Prop) : Nat → Int32 → Prop
  | 0, _ => False
  | n + 1, x2 => (lvS < x2 → (post (-1))) ∧ (¬ lvS < x2 → (wp_S_keysInWindow kS x1 x2 (fun r_2 => wp_S_fewestKeys lvS x2 (fun r_3 => (r_2 < r_3 → (wp_S_heightWithEnough_L2 kS lvS x1 post n (x2 + 1))) ∧ (¬ r_2 < r_3 → (post x2))))))
def wp_S_heightWithEnough (kS : Nat → Int64) (lvS : Int32) (a1 : Int32) (post : Int32 → Prop) : Prop := ∃ n0 : Nat, wp_S_heightWithEnough_L2 kS lvS a1 post n0 0
def wp_S_halve (kS : Nat → Int64) (vS : Nat → Int64) (lvS : Int32) (lhS : Int32) (mvS : Int64) (post : (Nat → Int64) → (Nat → Int64) → (Int32) → (Int32) → (Int64) → Prop) : Prop := wp_S_cells lvS (fun r_1 => wp_S_pack kS vS 0 r_1 (fun r_2 kS_3 vS_4 => wp_S_spreadPacked kS_3 vS_4 lhS mvS 0 (lvS - 1) r_2 (fun kS_5 vS_6 lhS_7 mvS_8 => post kS_5 vS_6 (lvS - 1) lhS_7 mvS_8)))
def wp_S_takeOut (kS : Nat → Int64) (vS : Nat → Int64) (llS : Int32) (lvS : Int32) (lhS : Int32) (mvS : Int64) (a1 : Int32) (post : (Nat → Int64) → (Nat → Int64) → (Int32) → (Int32) → (Int64) → Prop) : Prop := wp_S_clear kS vS a1 (fun kS_1 vS_2 => wp_S_heightWithEnough kS_1 lvS (a1 / 8) (fun r_3 => (r_3 = (-1) → ((lvS ≤ llS → (post kS_1 vS_2 lvS lhS mvS)) ∧ (¬ lvS ≤ llS → (wp_S_halve kS_1 vS_2 lvS lhS mvS (fun kS_6 vS_7 lvS_8 lhS_9 mvS_10 => post kS_6 vS_7 lvS_8 lhS_9 mvS_10))))) ∧ (¬ r_3 = (-1) → (wp_S_firstCell (a1 / 8) r_3 (fun r_11 => wp_S_windowCells r_3 (fun r_12 => wp_S_pack kS_1 vS_2 r_11 r_12 (fun r_13 kS_14 vS_15 => wp_S_spreadPacked kS_14 vS_15 lhS mvS r_11 r_3 r_13 (fun kS_16 vS_17 lhS_18 mvS_19 => post kS_16 vS_17 lvS lhS_18 mvS_19))))))))
def wp_S_remove (kS : Nat → Int64) (vS : Nat → Int64) (llS : Int32) (lvS : Int32) (lhS : Int32) (mvS : Int64) (a1 : Int64) (post : Int32 → (Nat → Int64) → (Nat → Int64) → (Int32) → (Int32) → (Int64) → Prop) : Prop := wp_S_cellOf kS lvS a1 (fun r_1 => (r_1 = (-1) → (post 0 kS vS lvS lhS mvS)) ∧ (¬ r_1 = (-1) → (wp_S_takeOut kS vS llS lvS lhS mvS r_1 (fun kS_3 vS_4 lvS_5 lhS_6 mvS_7 => post 1 kS_3 vS_4 lvS_5 lhS_6 mvS_7))))
def wp_S_drop_L15 (llS : Int32) (x1 : Int64) (x3 : Int32) (post : Int32 → (Nat → Int64) → (Nat → Int64) → (Int32) → (Int32) → (Int64) → Prop) : Nat → Int32 → (Nat → Int64) → (Nat → Int64) → (Int32) → (Int32) → (Int64) → Prop
  | 0, _, _, _, _, _, _ => False
  | n + 1, x4, kS, vS, lvS, lhS, mvS => (x3 ≤ x4 → (post x3 kS vS lvS lhS mvS)) ∧ (¬ x3 ≤ x4 → (wp_S_cellNotBelow kS lvS x1 (fun r_4 => (r_4 = (-1) → (post x4 kS vS lvS lhS mvS)) ∧ (¬ r_4 = (-1) → (wp_S_takeOut kS vS llS lvS lhS mvS r_4 (fun kS_6 vS_7 lvS_8 lhS_9 mvS_10 => wp_S_drop_L15 llS x1 x3 post n (x4 + 1) kS_6 vS_7 lvS_8 lhS_9 mvS_10))))))
def wp_S_drop (kS : Nat → Int64) (vS : Nat → Int64) (llS : Int32) (lvS : Int32) (lhS : Int32) (mvS : Int64) (a1 : Int64) (a3 : Int32) (post : Int32 → (Nat → Int64) → (Nat → Int64) → (Int32) → (Int32) → (Int64) → Prop) : Prop := (a3 < 0 → (post (-1) kS vS lvS lhS mvS)) ∧ (¬ a3 < 0 → ((a3 ≤ 64 → (∃ n0 : Nat, wp_S_drop_L15 llS a1 a3 post n0 0 kS vS lvS lhS mvS)) ∧ (¬ a3 ≤ 64 → (post (-1) kS vS lvS lhS mvS))))
def wp_S_has (kS : Nat → Int64) (lvS : Int32) (a1 : Int64) (post : Int32 → Prop) : Prop := wp_S_cellOf kS lvS a1 (fun r_1 => (r_1 = (-1) → (post 0)) ∧ (¬ r_1 = (-1) → (post 1)))
def wp_S_get (kS : Nat → Int64) (vS : Nat → Int64) (lvS : Int32) (a1 : Int64) (post : Int64 → Prop) : Prop := wp_S_cellOf kS lvS a1 (fun r_1 => (r_1 = (-1) → (post 0)) ∧ (¬ r_1 = (-1) → (vp_in r_1 512 ∧ (post (vS r_1.toNatClampNeg)))))
def wp_S_floor_L7 (kS : Nat → Int64) (lvS : Int32) (x1 : Int64) (post : Int64 → Prop) : Nat → Int32 → Prop
  | 0, _ => False
  | n + 1, x3 => (x3 < 0 → (post NOK)) ∧ (¬ x3 < 0 → (vp_in x3 512 ∧ (((kS x3.toNatClampNeg) = NOK → (wp_S_floor_L7 kS lvS x1 post n (x3 + (-1)))) ∧ (¬ (kS x3.toNatClampNeg) = NOK → ((x1 < (kS x3.toNatClampNeg) → (wp_S_floor_L7 kS lvS x1 post n (x3 + (-1)))) ∧ (¬ x1 < (kS x3.toNatClampNeg) → (post (kS x3.toNatClampNeg))))))))
def wp_S_floor (kS : Nat → Int64) (lvS : Int32) (a1 : Int64) (post : Int64 → Prop) : Prop := wp_S_cells lvS (fun r_1 => ∃ n0 : Nat, wp_S_floor_L7 kS lvS a1 post n0 (r_1 - 1))
def wp_S_ceiling (kS : Nat → Int64) (lvS : Int32) (a1 : Int64) (post : Int64 → Prop) : Prop := wp_S_cellNotBelow kS lvS a1 (fun r_1 => (r_1 = (-1) → (post NOK)) ∧ (¬ r_1 = (-1) → (vp_in r_1 512 ∧ (post (kS r_1.toNatClampNeg)))))
def wp_S_select_L4 (kS : Nat → Int64) (lvS : Int32) (x1 : Int32) (post : Int64 → Prop) : Nat → Int32 → Int32 → Prop
  | 0, _, _ => False
  | n + 1, x2, x3 => wp_S_cells lvS (fun r_1 => (r_1 ≤ x3 → (post NOK)) ∧ (¬ r_1 ≤ x3 → (vp_in x3 512 ∧ (((kS x3.toNatClampNeg) = NOK → (wp_S_select_L4 kS lvS x1 post n x2 (x3 + 1))) ∧ (¬ (kS x3.toNatClampNeg) = NOK → ((x2 = x1 → (post (kS x3.toNatClampNeg))) ∧ (¬ x2 = x1 → (wp_S_select_L4 kS lvS x1 post n (x2 + 1) (x3 + 1)))))))))
def wp_S_select (kS : Nat → Int64) (lvS : Int32) (a1 : Int32) (post : Int64 → Prop) : Prop := ∃ n0 : Nat, wp_S_select_L4 kS lvS a1 post n0 0 0
def wp_S_isHeldBetween (kS : Nat → Int64) (a1 : Int32) (a2 : Int64) (a4 : Int64) (post : Int32 → Prop) : Prop := vp_in a1 512 ∧ (((kS a1.toNatClampNeg) = NOK → (post 0)) ∧ (¬ (kS a1.toNatClampNeg) = NOK → (((kS a1.toNatClampNeg) < a2 → (post 0)) ∧ (¬ (kS a1.toNatClampNeg) < a2 → ((a4 < (kS a1.toNatClampNeg) → (post 0)) ∧ (¬ a4 < (kS a1.toNatClampNeg) → (post 1)))))))
def wp_S_count_L6 (kS : Nat → Int64) (lvS : Int32) (x1 : Int64) (x3 : Int64) (post : Int32 → Prop) : Nat → Int32 → Int32 → Prop
  | 0, _, _ => False
  | n + 1, x5, x6 => wp_S_cells lvS (fun r_1 => (r_1 ≤ x6 → (post x5)) ∧ (¬ r_1 ≤ x6 → (wp_S_isHeldBetween kS x6 x1 x3 (fun r_3 => (r_3 = 0 → (wp_S_count_L6 kS lvS x1 x3 post n x5 (x6 + 1))) ∧ (¬ r_3 = 0 → (wp_S_count_L6 kS lvS x1 x3 post n (x5 + 1) (x6 + 1)))))))
def wp_S_count (kS : Nat → Int64) (lvS : Int32) (a1 : Int64) (a3 : Int64) (post : Int32 → Prop) : Prop := ∃ n0 : Nat, wp_S_count_L6 kS lvS a1 a3 post n0 0 0
def wp_S_sum_L6 (kS : Nat → Int64) (vS : Nat → Int64) (lvS : Int32) (x1 : Int64) (x3 : Int64) (post : Int64 → Prop) : Nat → Int64 → Int32 → Prop
  | 0, _, _ => False
  | n + 1, x5, x7 => wp_S_cells lvS (fun r_1 => (r_1 ≤ x7 → (post x5)) ∧ (¬ r_1 ≤ x7 → (wp_S_isHeldBetween kS x7 x1 x3 (fun r_3 => (r_3 = 0 → (wp_S_sum_L6 kS vS lvS x1 x3 post n x5 (x7 + 1))) ∧ (¬ r_3 = 0 → (vp_in x7 512 ∧ (wp_S_sum_L6 kS vS lvS x1 x3 post n (x5 + (vS x7.toNatClampNeg)) (x7 + 1))))))))
def wp_S_sum (kS : Nat → Int64) (vS : Nat → Int64) (lvS : Int32) (a1 : Int64) (a3 : Int64) (post : Int64 → Prop) : Prop := ∃ n0 : Nat, wp_S_sum_L6 kS vS lvS a1 a3 post n0 0 0
def wp_S_size (kS : Nat → Int64) (lvS : Int32) (post : Int32 → Prop) : Prop := wp_S_cells lvS (fun r_1 => wp_S_keysAmong kS 0 r_1 (fun r_2 => post r_2))
def wp_S_cellKey (kS : Nat → Int64) (lvS : Int32) (a1 : Int32) (post : Int64 → Prop) : Prop := (a1 < 0 → (post NOK)) ∧ (¬ a1 < 0 → (wp_S_cells lvS (fun r_2 => (a1 < r_2 → (vp_in a1 512 ∧ (post (kS a1.toNatClampNeg)))) ∧ (¬ a1 < r_2 → (post NOK)))))
def wp_S_nodesOfTree (a0 : Int32) (post : Int32 → Prop) : Prop := post (((1 : Int32) <<< (a0 &&& 31)) - 1)
def wp_S_placeInTree : Nat → Int32 → Int32 → (Int32 → Prop) → Prop
  | 0, _, _, _ => False
  | n + 1, a0, a1, post => (1 < a1 → (wp_S_depthOf a0 (fun r_2 => (0 ≤ (r_2 - ((a1 + 1) / 2)) → (¬ ((1 : Int32) <<< ((r_2 - ((a1 + 1) / 2)) &&& 31)) = 0 ∧ (wp_S_nodesOfTree ((a1 + 1) / 2) (fun r_5 => wp_S_nodesOfTree (a1 - ((a1 + 1) / 2)) (fun r_6 => wp_S_placeInTree n (((1 : Int32) <<< ((r_2 - ((a1 + 1) / 2)) &&& 31)) + (a0 - a0 / ((1 : Int32) <<< ((r_2 - ((a1 + 1) / 2)) &&& 31)) * ((1 : Int32) <<< ((r_2 - ((a1 + 1) / 2)) &&& 31)))) (a1 - ((a1 + 1) / 2)) (fun r_7 => post ((r_5 + (((a0 >>> ((r_2 - ((a1 + 1) / 2)) &&& 31)) - ((1 : Int32) <<< (((a1 + 1) / 2) &&& 31))) * r_6)) + r_7))))))) ∧ (¬ 0 ≤ (r_2 - ((a1 + 1) / 2)) → (wp_S_placeInTree n a0 ((a1 + 1) / 2) (fun r_8 => post r_8)))))) ∧ (¬ 1 < a1 → (post 0))
def wp_S_place (lvS : Int32) (a1 : Int32) (post : Int32 → Prop) : Prop := (a1 < 1 → (post (-1))) ∧ (¬ a1 < 1 → (wp_S_segments lvS (fun r_2 => (a1 < r_2 → (wp_S_placeInTree 8 a1 lvS (fun r_4 => post r_4))) ∧ (¬ a1 < r_2 → (post (-1))))))
def wp_S_borne_L2 (kS : Nat → Int64) (lvS : Int32) (x1 : Int32) (post : Int64 → Prop) : Nat → Int32 → Prop
  | 0, _ => False
  | n + 1, x2 => wp_S_segments lvS (fun r_1 => (r_1 ≤ x2 → (post NOK)) ∧ (¬ r_1 ≤ x2 → (wp_S_placeInTree 8 x2 lvS (fun r_3 => (r_3 = x1 → (wp_S_borneBy kS lvS x2 (fun r_5 => post r_5))) ∧ (¬ r_3 = x1 → (wp_S_borne_L2 kS lvS x1 post n (x2 + 1)))))))
def wp_S_borne (kS : Nat → Int64) (lvS : Int32) (a1 : Int32) (post : Int64 → Prop) : Prop := ∃ n0 : Nat, wp_S_borne_L2 kS lvS a1 post n0 1
def wp_S_noteBlock_L2 (x1 : Int32) (x2 : Int32) (post : Int32 → (Nat → Int32) → Prop) : Nat → Int32 → (Nat → Int32) → Prop
  | 0, _, _ => False
  | n + 1, x3, bS => (x2 ≤ x3 → (vp_in x2 14 ∧ (post (x2 + 1) (upd bS x2.toNatClampNeg x1)))) ∧ (¬ x2 ≤ x3 → (vp_in x3 14 ∧ (((bS x3.toNatClampNeg) = x1 → (post x2 bS)) ∧ (¬ (bS x3.toNatClampNeg) = x1 → (wp_S_noteBlock_L2 x1 x2 post n (x3 + 1) bS)))))
def wp_S_noteBlock (bS : Nat → Int32) (a1 : Int32) (a2 : Int32) (post : Int32 → (Nat → Int32) → Prop) : Prop := ∃ n0 : Nat, wp_S_noteBlock_L2 a1 a2 post n0 0 bS
def wp_S_touched_L84 (kS : Nat → Int64) (lvS : Int32) (x3 : Int32) (x6 : Int32) (post : Int32 → (Nat → Int32) → Prop) : Nat → Int32 → Int32 → (Nat → Int32) → Prop
  | 0, _, _, _ => False
  | n + 1, x5, x7, bS => (8 ≤ x7 → (post x5 bS)) ∧ (¬ 8 ≤ x7 → (¬ x3 = 0 ∧ (wp_S_noteBlock bS ((x6 + x7) / x3) x5 (fun r_13 bS_14 => wp_S_touched_L84 kS lvS x3 x6 post n r_13 (x7 + 1) bS_14))))
def wp_S_touched_L35 (kS : Nat → Int64) (lvS : Int32) (x3 : Int32) (x4 : Int32) (post : Int32 → (Nat → Int32) → Prop) : Nat → Int32 → Int32 → (Nat → Int32) → Prop
  | 0, _, _, _ => False
  | n + 1, x5, x6, bS => (x6 < 1 → (wp_S_segments lvS (fun r_6 => ∃ n0 : Nat, wp_S_touched_L84 kS lvS x3 (r_6 + (x4 * 8)) post n0 x5 0 bS))) ∧ (¬ x6 < 1 → (wp_S_placeInTree 8 x6 lvS (fun r_7 => ¬ x3 = 0 ∧ (wp_S_noteBlock bS (r_7 / x3) x5 (fun r_9 bS_10 => wp_S_touched_L35 kS lvS x3 x4 post n r_9 (x6 / 2) bS_10)))))
def wp_S_touched (kS : Nat → Int64) (bS : Nat → Int32) (lvS : Int32) (a1 : Int64) (a3 : Int32) (post : Int32 → (Nat → Int32) → Prop) : Prop := (a3 < 1 → (post (-1) bS)) ∧ (¬ a3 < 1 → ((a3 ≤ 1024 → (wp_S_seek kS lvS a1 (fun r_3 => wp_S_segments lvS (fun r_4 => ∃ n0 : Nat, wp_S_touched_L35 kS lvS a3 r_3 post n0 0 ((r_4 + r_3) / 2) bS)))) ∧ (¬ a3 ≤ 1024 → (post (-1) bS))))
def wp_S_window (lhS : Int32) (post : Int32 → Prop) : Prop := post lhS
def wp_S_moved (mvS : Int64) (post : Int64 → Prop) : Prop := post mvS
def wp_M_segments (ceM : Int32) (post : Int32 → Prop) : Prop := post (ceM / 8)
def wp_M_levels_L7 (ceM : Int32) (post : Int32 → Prop) : Nat → Int32 → Int32 → Prop
  | 0, _, _ => False
  | n + 1, x1, x2 => (x2 ≤ 1 → (post x1)) ∧ (¬ x2 ≤ 1 → (wp_M_levels_L7 ceM post n (x1 + 1) (x2 / 2)))
def wp_M_levels (ceM : Int32) (post : Int32 → Prop) : Prop := wp_M_segments ceM (fun r_1 => ∃ n0 : Nat, wp_M_levels_L7 ceM post n0 0 r_1)
def wp_M_greatest_L10 (fM : Nat → Int32) (kM : Nat → Int64) (x1 : Int32) (x2 : Int32) (post : Int64 → Prop) : Nat → Int64 → Int32 → Prop
  | 0, _, _ => False
  | n + 1, x3, x5 => ((8 * (x1 + x2)) ≤ x5 → (post x3)) ∧ (¬ (8 * (x1 + x2)) ≤ x5 → (vp_in x5 512 ∧ (((fM x5.toNatClampNeg) = 0 → (wp_M_greatest_L10 fM kM x1 x2 post n x3 (x5 + 1))) ∧ (¬ (fM x5.toNatClampNeg) = 0 → (wp_M_greatest_L10 fM kM x1 x2 post n (kM x5.toNatClampNeg) (x5 + 1))))))
def wp_M_greatest (fM : Nat → Int32) (kM : Nat → Int64) (a1 : Int32) (a2 : Int32) (post : Int64 → Prop) : Prop := ∃ n0 : Nat, wp_M_greatest_L10 fM kM a1 a2 post n0 NOK (8 * a1)
def wp_M_levelOf_L4 (post : Int32 → Prop) : Nat → Int32 → Int32 → Prop
  | 0, _, _ => False
  | n + 1, x1, x2 => (x2 ≤ 1 → (post x1)) ∧ (¬ x2 ≤ 1 → (wp_M_levelOf_L4 post n (x1 + 1) (x2 / 2)))
def wp_M_levelOf (a0 : Int32) (post : Int32 → Prop) : Prop := ∃ n0 : Nat, wp_M_levelOf_L4 post n0 0 a0
def wp_M_bears (ceM : Int32) (fM : Nat → Int32) (kM : Nat → Int64) (a1 : Int32) (post : Int64 → Prop) : Prop := wp_M_segments ceM (fun r_1 => wp_M_levelOf a1 (fun r_2 => wp_M_levelOf a1 (fun r_3 => wp_M_greatest fM kM ((a1 - ((1 : Int32) <<< (r_3 &&& 31))) * (r_1 >>> (r_2 &&& 31))) ((r_1 >>> (r_2 &&& 31)) / 2) (fun r_4 => post r_4))))
def wp_M_step (ceM : Int32) (fM : Nat → Int32) (kM : Nat → Int64) (a1 : Int32) (a2 : Int64) (post : Int32 → Prop) : Prop := wp_M_bears ceM fM kM a1 (fun r_1 => (r_1 = NOK → (post ((2 * a1) + 1))) ∧ (¬ r_1 = NOK → ((r_1 < a2 → (post ((2 * a1) + 1))) ∧ (¬ r_1 < a2 → (post (2 * a1))))))
def wp_M_seek_L2 (ceM : Int32) (fM : Nat → Int32) (kM : Nat → Int64) (x1 : Int64) (post : Int32 → Prop) : Nat → Int32 → Prop
  | 0, _ => False
  | n + 1, x3 => wp_M_segments ceM (fun r_1 => (r_1 ≤ x3 → (wp_M_segments ceM (fun r_3 => post (x3 - r_3)))) ∧ (¬ r_1 ≤ x3 → (wp_M_step ceM fM kM x3 x1 (fun r_4 => wp_M_seek_L2 ceM fM kM x1 post n r_4))))
def wp_M_seek (ceM : Int32) (fM : Nat → Int32) (kM : Nat → Int64) (a1 : Int64) (post : Int32 → Prop) : Prop := ∃ n0 : Nat, wp_M_seek_L2 ceM fM kM a1 post n0 1
def wp_M_placeOf_L16 (ceM : Int32) (x1 : Int32) (post : Int32 → Prop) : Nat → Int32 → Int32 → Int32 → Int32 → Prop
  | 0, _, _, _, _ => False
  | n + 1, x2, x3, x4, x5 => (x3 ≤ 1 → (post x5)) ∧ (¬ x3 ≤ 1 → ((x4 < ((x3 + 1) / 2) → (wp_M_placeOf_L16 ceM x1 post n x2 ((x3 + 1) / 2) x4 x5)) ∧ (¬ x4 < ((x3 + 1) / 2) → (wp_M_placeOf_L16 ceM x1 post n (x1 >>> ((x4 - ((x3 + 1) / 2)) &&& 31)) (x3 - ((x3 + 1) / 2)) (x4 - ((x3 + 1) / 2)) (x5 + ((((1 : Int32) <<< (((x3 + 1) / 2) &&& 31)) - 1) + (((x1 >>> ((x4 - ((x3 + 1) / 2)) &&& 31)) - (x2 <<< (((x3 + 1) / 2) &&& 31))) * (((1 : Int32) <<< ((x3 - ((x3 + 1) / 2)) &&& 31)) - 1))))))))
def wp_M_placeOf (ceM : Int32) (a1 : Int32) (post : Int32 → Prop) : Prop := wp_M_levels ceM (fun r_1 => wp_M_levelOf a1 (fun r_2 => ∃ n0 : Nat, wp_M_placeOf_L16 ceM a1 post n0 1 r_1 r_2 0))
def wp_M_isNode (ceM : Int32) (a1 : Int32) (post : Int32 → Prop) : Prop := (a1 < 1 → (post 0)) ∧ (¬ a1 < 1 → (wp_M_segments ceM (fun r_2 => (r_2 ≤ a1 → (post 0)) ∧ (¬ r_2 ≤ a1 → (post 1)))))
def wp_M_place (ceM : Int32) (a1 : Int32) (post : Int32 → Prop) : Prop := wp_M_isNode ceM a1 (fun r_1 => (r_1 = 0 → (post (-1))) ∧ (¬ r_1 = 0 → (wp_M_placeOf ceM a1 (fun r_3 => post r_3))))
def wp_M_borne_L7 (ceM : Int32) (fM : Nat → Int32) (kM : Nat → Int64) (x1 : Int32) (post : Int64 → Prop) : Nat → Int64 → Int32 → Prop
  | 0, _, _ => False
  | n + 1, x2, x4 => wp_M_segments ceM (fun r_1 => (r_1 ≤ x4 → (post x2)) ∧ (¬ r_1 ≤ x4 → (wp_M_placeOf ceM x4 (fun r_3 => (r_3 = x1 → (wp_M_bears ceM fM kM x4 (fun r_5 => wp_M_borne_L7 ceM fM kM x1 post n r_5 (x4 + 1)))) ∧ (¬ r_3 = x1 → (wp_M_borne_L7 ceM fM kM x1 post n x2 (x4 + 1)))))))
def wp_M_borne (ceM : Int32) (fM : Nat → Int32) (kM : Nat → Int64) (a1 : Int32) (post : Int64 → Prop) : Prop := ∃ n0 : Nat, wp_M_borne_L7 ceM fM kM a1 post n0 NOK 1
def wp_M_touched_L105 (ko38 : Int32 → Int32 → Prop) (ceM : Int32) (fM : Nat → Int32) (kM : Nat → Int64) (x1 : Int64) (x3 : Int32) (x4 : Int32) (x5 : Int32) (x6 : Int32) (x7 : Int32) (post : Int32 → Prop) : Nat → Int32 → Int32 → Prop
  | 0, _, _ => False
  | n + 1, x8, x9 => wp_M_segments ceM (fun r_11 => (r_11 ≤ x9 → ((x8 = 0 → (ko38 x6 (x7 + 1))) ∧ (¬ x8 = 0 → (ko38 (x6 + 1) (x7 + 1))))) ∧ (¬ r_11 ≤ x9 → ((x8 = 0 → (wp_M_placeOf ceM x9 (fun r_16 => ¬ x3 = 0 ∧ (((r_16 / x3) = x7 → (wp_M_step ceM fM kM x9 x1 (fun r_20 => wp_M_touched_L105 ko38 ceM fM kM x1 x3 x4 x5 x6 x7 post n 1 r_20))) ∧ (¬ (r_16 / x3) = x7 → (wp_M_step ceM fM kM x9 x1 (fun r_19 => wp_M_touched_L105 ko38 ceM fM kM x1 x3 x4 x5 x6 x7 post n 0 r_19))))))) ∧ (¬ x8 = 0 → (wp_M_step ceM fM kM x9 x1 (fun r_15 => wp_M_touched_L105 ko38 ceM fM kM x1 x3 x4 x5 x6 x7 post n 1 r_15))))))
def wp_M_touched_L57 (ko38 : Int32 → Int32 → Prop) (ceM : Int32) (fM : Nat → Int32) (kM : Nat → Int64) (x1 : Int64) (x3 : Int32) (x4 : Int32) (x5 : Int32) (x6 : Int32) (x7 : Int32) (post : Int32 → Prop) : Nat → Int32 → Int32 → Prop
  | 0, _, _ => False
  | n + 1, x8, x9 => (((8 * x5) + 8) ≤ x9 → (∃ n0 : Nat, wp_M_touched_L105 ko38 ceM fM kM x1 x3 x4 x5 x6 x7 post n0 x8 1)) ∧ (¬ ((8 * x5) + 8) ≤ x9 → ((x8 = 0 → (wp_M_segments ceM (fun r_8 => ¬ x3 = 0 ∧ ((((r_8 + x9) / x3) = x7 → (wp_M_touched_L57 ko38 ceM fM kM x1 x3 x4 x5 x6 x7 post n 1 (x9 + 1))) ∧ (¬ ((r_8 + x9) / x3) = x7 → (wp_M_touched_L57 ko38 ceM fM kM x1 x3 x4 x5 x6 x7 post n 0 (x9 + 1))))))) ∧ (¬ x8 = 0 → (wp_M_touched_L57 ko38 ceM fM kM x1 x3 x4 x5 x6 x7 post n 1 (x9 + 1)))))
def wp_M_touched_L38 (ceM : Int32) (fM : Nat → Int32) (kM : Nat → Int64) (x1 : Int64) (x3 : Int32) (x4 : Int32) (x5 : Int32) (post : Int32 → Prop) : Nat → Int32 → Int32 → Prop
  | 0, _, _ => False
  | n + 1, x6, x7 => (x4 ≤ (x7 * x3) → (post x6)) ∧ (¬ x4 ≤ (x7 * x3) → (∃ n0 : Nat, wp_M_touched_L57 (fun z0 z1 => wp_M_touched_L38 ceM fM kM x1 x3 x4 x5 post n z0 z1) ceM fM kM x1 x3 x4 x5 x6 x7 post n0 0 (8 * x5)))
def wp_M_touched (ceM : Int32) (fM : Nat → Int32) (kM : Nat → Int64) (a1 : Int64) (a3 : Int32) (post : Int32 → Prop) : Prop := (a3 < 1 → (post (-1))) ∧ (¬ a3 < 1 → ((a3 ≤ 1024 → (wp_M_segments ceM (fun r_3 => wp_M_seek ceM fM kM a1 (fun r_4 => ∃ n0 : Nat, wp_M_touched_L38 ceM fM kM a1 a3 (ceM + r_3) r_4 post n0 0 0)))) ∧ (¬ a3 ≤ 1024 → (post (-1)))))
def wp_M_most (ceM : Int32) (a1 : Int32) (post : Int32 → Prop) : Prop := wp_M_levels ceM (fun r_1 => ¬ (4 * r_1) = 0 ∧ (post ((((8 : Int32) <<< (a1 &&& 31)) * ((4 * r_1) - a1)) / (4 * r_1))))
def wp_M_fewest (ceM : Int32) (a1 : Int32) (post : Int32 → Prop) : Prop := wp_M_levels ceM (fun r_1 => ¬ (8 * r_1) = 0 ∧ (post ((((((8 : Int32) <<< (a1 &&& 31)) * (r_1 + a1)) + (8 * r_1)) - 1) / (8 * r_1))))
def wp_M_firstOf (a0 : Int32) (a1 : Int32) (post : Int32 → Prop) : Prop := post (((a0 >>> (a1 &&& 31)) <<< (a1 &&& 31)) * 8)
def wp_M_held_L5 (fM : Nat → Int32) (x1 : Int32) (x2 : Int32) (post : Int32 → Prop) : Nat → Int32 → Int32 → Prop
  | 0, _, _ => False
  | n + 1, x3, x4 => ((x1 + x2) ≤ x4 → (post x3)) ∧ (¬ (x1 + x2) ≤ x4 → (vp_in x4 512 ∧ (((fM x4.toNatClampNeg) = 0 → (wp_M_held_L5 fM x1 x2 post n (x3 + 0) (x4 + 1))) ∧ (¬ (fM x4.toNatClampNeg) = 0 → (wp_M_held_L5 fM x1 x2 post n (x3 + 1) (x4 + 1))))))
def wp_M_held (fM : Nat → Int32) (a1 : Int32) (a2 : Int32) (post : Int32 → Prop) : Prop := ∃ n0 : Nat, wp_M_held_L5 fM a1 a2 post n0 0 a1
def wp_M_lift_L2 (kM : Nat → Int64) (vM : Nat → Int64) (x1 : Int32) (x2 : Int32) (post : (Nat → Int32) → (Int32) → (Nat → Int64) → (Nat → Int64) → Prop) : Nat → Int32 → (Nat → Int32) → (Int32) → (Nat → Int64) → (Nat → Int64) → Prop
  | 0, _, _, _, _, _ => False
  | n + 1, x3, fM, waM, wkM, wvM => ((x1 + x2) ≤ x3 → (post fM waM wkM wvM)) ∧ (¬ (x1 + x2) ≤ x3 → (vp_in x3 512 ∧ (((fM x3.toNatClampNeg) = 0 → (wp_M_lift_L2 kM vM x1 x2 post n (x3 + 1) fM waM wkM wvM)) ∧ (¬ (fM x3.toNatClampNeg) = 0 → (vp_in waM 513 ∧ (wp_M_lift_L2 kM vM x1 x2 post n (x3 + 1) (upd fM x3.toNatClampNeg (vp_nar .boolean 0)) (waM + 1) (vp_updL wkM waM.toNatClampNeg (kM x3.toNatClampNeg)) (vp_updL wvM waM.toNatClampNeg (vM x3.toNatClampNeg))))))))
def wp_M_lift (fM : Nat → Int32) (kM : Nat → Int64) (vM : Nat → Int64) (waM : Int32) (wkM : Nat → Int64) (wvM : Nat → Int64) (a1 : Int32) (a2 : Int32) (post : (Nat → Int32) → (Int32) → (Nat → Int64) → (Nat → Int64) → Prop) : Prop := ∃ n0 : Nat, wp_M_lift_L2 kM vM a1 a2 post n0 a1 fM waM wkM wvM
def wp_M_join_L6 (x1 : Int64) (x3 : Int64) (post : (Int32) → (Nat → Int64) → (Nat → Int64) → Prop) : Nat → Int32 → (Int32) → (Nat → Int64) → (Nat → Int64) → Prop
  | 0, _, _, _, _ => False
  | n + 1, x5, waM, wkM, wvM => (x5 ≤ 0 → (vp_in x5 513 ∧ (post (waM + 1) (vp_updL wkM x5.toNatClampNeg x1) (vp_updL wvM x5.toNatClampNeg x3)))) ∧ (¬ x5 ≤ 0 → (vp_in (x5 - 1) 513 ∧ (((wkM (x5 - 1).toNatClampNeg) ≤ x1 → (vp_in x5 513 ∧ (post (waM + 1) (vp_updL wkM x5.toNatClampNeg x1) (vp_updL wvM x5.toNatClampNeg x3)))) ∧ (¬ (wkM (x5 - 1).toNatClampNeg) ≤ x1 → (vp_in x5 513 ∧ (wp_M_join_L6 x1 x3 post n (x5 + (-1)) waM (vp_updL wkM x5.toNatClampNeg (wkM (x5 - 1).toNatClampNeg)) (vp_updL wvM x5.toNatClampNeg (wvM (x5 - 1).toNatClampNeg))))))))
def wp_M_join (waM : Int32) (wkM : Nat → Int64) (wvM : Nat → Int64) (a1 : Int64) (a3 : Int64) (post : (Int32) → (Nat → Int64) → (Nat → Int64) → Prop) : Prop := ∃ n0 : Nat, wp_M_join_L6 a1 a3 post n0 waM waM wkM wvM
def wp_M_spread_L8 (wkM : Nat → Int64) (wvM : Nat → Int64) (x1 : Int32) (x2 : Int32) (x3 : Int32) (post : (Nat → Int32) → (Nat → Int64) → (Nat → Int64) → (Int32) → (Int64) → (Int32) → Prop) : Nat → Int32 → (Nat → Int32) → (Nat → Int64) → (Nat → Int64) → (Int32) → (Int64) → (Int32) → Prop
  | 0, _, _, _, _, _, _, _ => False
  | n + 1, x4, fM, kM, vM, wiM, moM, waM => (waM ≤ x4 → (post fM kM vM x2 (moM + waM.toInt64) 0)) ∧ (¬ waM ≤ x4 → (¬ waM = 0 ∧ (vp_in (x1 + ((x4 * x3) / waM)) 512 ∧ (vp_in x4 513 ∧ (wp_M_spread_L8 wkM wvM x1 x2 x3 post n (x4 + 1) (upd fM (x1 + ((x4 * x3) / waM)).toNatClampNeg (vp_nar .boolean 1)) (vp_updL kM (x1 + ((x4 * x3) / waM)).toNatClampNeg (wkM x4.toNatClampNeg)) (vp_updL vM (x1 + ((x4 * x3) / waM)).toNatClampNeg (wvM x4.toNatClampNeg)) wiM moM waM)))))
def wp_M_spread (fM : Nat → Int32) (kM : Nat → Int64) (vM : Nat → Int64) (wiM : Int32) (moM : Int64) (waM : Int32) (wkM : Nat → Int64) (wvM : Nat → Int64) (a1 : Int32) (a2 : Int32) (post : (Nat → Int32) → (Nat → Int64) → (Nat → Int64) → (Int32) → (Int64) → (Int32) → Prop) : Prop := ∃ n0 : Nat, wp_M_spread_L8 wkM wvM a1 a2 ((8 : Int32) <<< (a2 &&& 31)) post n0 0 fM kM vM wiM moM waM
def wp_M_cellOf_L5 (ceM : Int32) (fM : Nat → Int32) (kM : Nat → Int64) (x1 : Int64) (post : Int32 → Prop) : Nat → Int32 → Int32 → Prop
  | 0, _, _ => False
  | n + 1, x3, x4 => (ceM ≤ x4 → (post x3)) ∧ (¬ ceM ≤ x4 → (vp_in x4 512 ∧ (((fM x4.toNatClampNeg) = 0 → (wp_M_cellOf_L5 ceM fM kM x1 post n x3 (x4 + 1))) ∧ (¬ (fM x4.toNatClampNeg) = 0 → (((kM x4.toNatClampNeg) = x1 → (wp_M_cellOf_L5 ceM fM kM x1 post n x4 (x4 + 1))) ∧ (¬ (kM x4.toNatClampNeg) = x1 → (wp_M_cellOf_L5 ceM fM kM x1 post n x3 (x4 + 1))))))))
def wp_M_cellOf (ceM : Int32) (fM : Nat → Int32) (kM : Nat → Int64) (a1 : Int64) (post : Int32 → Prop) : Prop := ∃ n0 : Nat, wp_M_cellOf_L5 ceM fM kM a1 post n0 (-1) 0
def wp_M_put_L48 (x1 : Int64) (x3 : Int64) (x6 : Int32) (x7 : Int32) (post : Int32 → (Int32) → (Nat → Int32) → (Nat → Int64) → (Nat → Int64) → (Int32) → (Int64) → (Int32) → (Nat → Int64) → (Nat → Int64) → Prop) : Nat → Int32 → (Int32) → (Nat → Int32) → (Nat → Int64) → (Nat → Int64) → (Int32) → (Int64) → (Int32) → (Nat → Int64) → (Nat → Int64) → Prop
  | 0, _, _, _, _, _, _, _, _, _, _ => False
  | n + 1, x8, ceM, fM, kM, vM, wiM, moM, waM, wkM, wvM => (x7 < x8 → ((ceM = 512 → (post (-1) ceM fM kM vM wiM moM waM wkM wvM)) ∧ (¬ ceM = 512 → (wp_M_lift fM kM vM waM wkM wvM 0 ceM (fun fM_9 waM_10 wkM_11 wvM_12 => wp_M_join waM_10 wkM_11 wvM_12 x1 x3 (fun waM_13 wkM_14 wvM_15 => wp_M_spread fM_9 kM vM wiM moM waM_13 wkM_14 wvM_15 0 (x7 + 1) (fun fM_16 kM_17 vM_18 wiM_19 moM_20 waM_21 => post 1 (2 * ceM) fM_16 kM_17 vM_18 wiM_19 moM_20 waM_21 wkM_14 wvM_15))))))) ∧ (¬ x7 < x8 → (wp_M_firstOf x6 x8 (fun r_22 => wp_M_held fM r_22 ((8 : Int32) <<< (x8 &&& 31)) (fun r_23 => wp_M_most ceM x8 (fun r_24 => (r_24 < (r_23 + 1) → (wp_M_put_L48 x1 x3 x6 x7 post n (x8 + 1) ceM fM kM vM wiM moM waM wkM wvM)) ∧ (¬ r_24 < (r_23 + 1) → (wp_M_lift fM kM vM waM wkM wvM r_22 ((8 : Int32) <<< (x8 &&& 31)) (fun fM_26 waM_27 wkM_28 wvM_29 => wp_M_join waM_27 wkM_28 wvM_29 x1 x3 (fun waM_30 wkM_31 wvM_32 => wp_M_spread fM_26 kM vM wiM moM waM_30 wkM_31 wvM_32 r_22 x8 (fun fM_33 kM_34 vM_35 wiM_36 moM_37 waM_38 => post 1 ceM fM_33 kM_34 vM_35 wiM_36 moM_37 waM_38 wkM_31 wvM_32))))))))))
def wp_M_put (ceM : Int32) (fM : Nat → Int32) (kM : Nat → Int64) (vM : Nat → Int64) (wiM : Int32) (moM : Int64) (waM : Int32) (wkM : Nat → Int64) (wvM : Nat → Int64) (a1 : Int64) (a3 : Int64) (post : Int32 → (Int32) → (Nat → Int32) → (Nat → Int64) → (Nat → Int64) → (Int32) → (Int64) → (Int32) → (Nat → Int64) → (Nat → Int64) → Prop) : Prop := (a1 = NOK → (post (-1) ceM fM kM vM wiM moM waM wkM wvM)) ∧ (¬ a1 = NOK → (wp_M_cellOf ceM fM kM a1 (fun r_2 => (r_2 < 0 → (wp_M_seek ceM fM kM a1 (fun r_4 => wp_M_levels ceM (fun r_5 => ∃ n0 : Nat, wp_M_put_L48 a1 a3 r_4 r_5 post n0 0 ceM fM kM vM wiM moM waM wkM wvM)))) ∧ (¬ r_2 < 0 → (vp_in r_2 512 ∧ (post 0 ceM fM kM (vp_updL vM r_2.toNatClampNeg a3) wiM moM waM wkM wvM))))))
def wp_M_fill_L23 (x3 : Int64) (x5 : Int32) (post : Int32 → (Int32) → (Nat → Int32) → (Nat → Int64) → (Nat → Int64) → (Int32) → (Int64) → (Int32) → (Nat → Int64) → (Nat → Int64) → Prop) : Nat → Int32 → Int64 → Int32 → (Int32) → (Nat → Int32) → (Nat → Int64) → (Nat → Int64) → (Int32) → (Int64) → (Int32) → (Nat → Int64) → (Nat → Int64) → Prop
  | 0, _, _, _, _, _, _, _, _, _, _, _, _ => False
  | n + 1, x6, x7, x9, ceM, fM, kM, vM, wiM, moM, waM, wkM, wvM => (x5 ≤ x9 → (post x6 ceM fM kM vM wiM moM waM wkM wvM)) ∧ (¬ x5 ≤ x9 → (wp_M_put ceM fM kM vM wiM moM waM wkM wvM x7 x9.toInt64 (fun r_4 ceM_5 fM_6 kM_7 vM_8 wiM_9 moM_10 waM_11 wkM_12 wvM_13 => (0 ≤ r_4 → (wp_M_fill_L23 x3 x5 post n (x6 + r_4) (x7 + x3) (x9 + 1) ceM_5 fM_6 kM_7 vM_8 wiM_9 moM_10 waM_11 wkM_12 wvM_13)) ∧ (¬ 0 ≤ r_4 → (post x6 ceM_5 fM_6 kM_7 vM_8 wiM_9 moM_10 waM_11 wkM_12 wvM_13)))))
def wp_M_fill (ceM : Int32) (fM : Nat → Int32) (kM : Nat → Int64) (vM : Nat → Int64) (wiM : Int32) (moM : Int64) (waM : Int32) (wkM : Nat → Int64) (wvM : Nat → Int64) (a1 : Int64) (a3 : Int64) (a5 : Int32) (post : Int32 → (Int32) → (Nat → Int32) → (Nat → Int64) → (Nat → Int64) → (Int32) → (Int64) → (Int32) → (Nat → Int64) → (Nat → Int64) → Prop) : Prop := (a5 < 0 → (post (-1) ceM fM kM vM wiM moM waM wkM wvM)) ∧ (¬ a5 < 0 → ((a5 ≤ 64 → (∃ n0 : Nat, wp_M_fill_L23 a3 a5 post n0 0 a1 0 ceM fM kM vM wiM moM waM wkM wvM)) ∧ (¬ a5 ≤ 64 → (post (-1) ceM fM kM vM wiM moM waM wkM wvM))))
def wp_M_remove_L28 (leM : Int32) (x3 : Int32) (x4 : Int32) (post : Int32 → (Int32) → (Nat → Int32) → (Nat → Int64) → (Nat → Int64) → (Int32) → (Int64) → (Int32) → (Nat → Int64) → (Nat → Int64) → Prop) : Nat → Int32 → (Int32) → (Nat → Int32) → (Nat → Int64) → (Nat → Int64) → (Int32) → (Int64) → (Int32) → (Nat → Int64) → (Nat → Int64) → Prop
  | 0, _, _, _, _, _, _, _, _, _, _ => False
  | n + 1, x5, ceM, fM, kM, vM, wiM, moM, waM, wkM, wvM => (x4 < x5 → ((ceM ≤ leM → (post 1 ceM fM kM vM wiM moM waM wkM wvM)) ∧ (¬ ceM ≤ leM → (wp_M_lift fM kM vM waM wkM wvM 0 ceM (fun fM_7 waM_8 wkM_9 wvM_10 => wp_M_spread fM_7 kM vM wiM moM waM_8 wkM_9 wvM_10 0 (x4 - 1) (fun fM_11 kM_12 vM_13 wiM_14 moM_15 waM_16 => post 1 (ceM / 2) fM_11 kM_12 vM_13 wiM_14 moM_15 waM_16 wkM_9 wvM_10)))))) ∧ (¬ x4 < x5 → (wp_M_firstOf (x3 / 8) x5 (fun r_17 => wp_M_held fM r_17 ((8 : Int32) <<< (x5 &&& 31)) (fun r_18 => wp_M_fewest ceM x5 (fun r_19 => (r_18 < r_19 → (wp_M_remove_L28 leM x3 x4 post n (x5 + 1) ceM fM kM vM wiM moM waM wkM wvM)) ∧ (¬ r_18 < r_19 → (wp_M_lift fM kM vM waM wkM wvM r_17 ((8 : Int32) <<< (x5 &&& 31)) (fun fM_21 waM_22 wkM_23 wvM_24 => wp_M_spread fM_21 kM vM wiM moM waM_22 wkM_23 wvM_24 r_17 x5 (fun fM_25 kM_26 vM_27 wiM_28 moM_29 waM_30 => post 1 ceM fM_25 kM_26 vM_27 wiM_28 moM_29 waM_30 wkM_23 wvM_24)))))))))
def wp_M_remove (leM : Int32) (ceM : Int32) (fM : Nat → Int32) (kM : Nat → Int64) (vM : Nat → Int64) (wiM : Int32) (moM : Int64) (waM : Int32) (wkM : Nat → Int64) (wvM : Nat → Int64) (a1 : Int64) (post : Int32 → (Int32) → (Nat → Int32) → (Nat → Int64) → (Nat → Int64) → (Int32) → (Int64) → (Int32) → (Nat → Int64) → (Nat → Int64) → Prop) : Prop := wp_M_cellOf ceM fM kM a1 (fun r_1 => (0 ≤ r_1 → (vp_in r_1 512 ∧ (wp_M_levels ceM (fun r_4 => ∃ n0 : Nat, wp_M_remove_L28 leM r_1 r_4 post n0 0 ceM (upd fM r_1.toNatClampNeg (vp_nar .boolean 0)) kM vM wiM moM waM wkM wvM)))) ∧ (¬ 0 ≤ r_1 → (post 0 ceM fM kM vM wiM moM waM wkM wvM)))
def wp_M_ceiling_L12 (ceM : Int32) (fM : Nat → Int32) (kM : Nat → Int64) (x1 : Int64) (post : Int64 → Prop) : Nat → Int64 → Int32 → Prop
  | 0, _, _ => False
  | n + 1, x3, x5 => (x5 < 0 → (post x3)) ∧ (¬ x5 < 0 → (vp_in x5 512 ∧ (((fM x5.toNatClampNeg) = 0 → (wp_M_ceiling_L12 ceM fM kM x1 post n x3 (x5 + (-1)))) ∧ (¬ (fM x5.toNatClampNeg) = 0 → (((kM x5.toNatClampNeg) < x1 → (wp_M_ceiling_L12 ceM fM kM x1 post n x3 (x5 + (-1)))) ∧ (¬ (kM x5.toNatClampNeg) < x1 → (wp_M_ceiling_L12 ceM fM kM x1 post n (kM x5.toNatClampNeg) (x5 + (-1)))))))))
def wp_M_ceiling (ceM : Int32) (fM : Nat → Int32) (kM : Nat → Int64) (a1 : Int64) (post : Int64 → Prop) : Prop := ∃ n0 : Nat, wp_M_ceiling_L12 ceM fM kM a1 post n0 NOK (ceM - 1)
def wp_M_drop_L21 (leM : Int32) (x1 : Int64) (x3 : Int32) (post : Int32 → (Int32) → (Nat → Int32) → (Nat → Int64) → (Nat → Int64) → (Int32) → (Int64) → (Int32) → (Nat → Int64) → (Nat → Int64) → Prop) : Nat → Int32 → Int32 → Int32 → (Int32) → (Nat → Int32) → (Nat → Int64) → (Nat → Int64) → (Int32) → (Int64) → (Int32) → (Nat → Int64) → (Nat → Int64) → Prop
  | 0, _, _, _, _, _, _, _, _, _, _, _, _ => False
  | n + 1, x4, x5, x6, ceM, fM, kM, vM, wiM, moM, waM, wkM, wvM => (x3 ≤ x6 → (post x4 ceM fM kM vM wiM moM waM wkM wvM)) ∧ (¬ x3 ≤ x6 → ((x5 = 0 → (post x4 ceM fM kM vM wiM moM waM wkM wvM)) ∧ (¬ x5 = 0 → (wp_M_ceiling ceM fM kM x1 (fun r_5 => (r_5 = NOK → (wp_M_drop_L21 leM x1 x3 post n (x4 + 0) 0 (x6 + 1) ceM fM kM vM wiM moM waM wkM wvM)) ∧ (¬ r_5 = NOK → (wp_M_remove leM ceM fM kM vM wiM moM waM wkM wvM r_5 (fun r_8 ceM_9 fM_10 kM_11 vM_12 wiM_13 moM_14 waM_15 wkM_16 wvM_17 => (r_8 = 0 → (wp_M_drop_L21 leM x1 x3 post n (x4 + 0) 0 (x6 + 1) ceM_9 fM_10 kM_11 vM_12 wiM_13 moM_14 waM_15 wkM_16 wvM_17)) ∧ (¬ r_8 = 0 → (wp_M_drop_L21 leM x1 x3 post n (x4 + 1) 1 (x6 + 1) ceM_9 fM_10 kM_11 vM_12 wiM_13 moM_14 waM_15 wkM_16 wvM_17))))))))))
def wp_M_drop (leM : Int32) (ceM : Int32) (fM : Nat → Int32) (kM : Nat → Int64) (vM : Nat → Int64) (wiM : Int32) (moM : Int64) (waM : Int32) (wkM : Nat → Int64) (wvM : Nat → Int64) (a1 : Int64) (a3 : Int32) (post : Int32 → (Int32) → (Nat → Int32) → (Nat → Int64) → (Nat → Int64) → (Int32) → (Int64) → (Int32) → (Nat → Int64) → (Nat → Int64) → Prop) : Prop := (a3 < 0 → (post (-1) ceM fM kM vM wiM moM waM wkM wvM)) ∧ (¬ a3 < 0 → ((a3 ≤ 64 → (∃ n0 : Nat, wp_M_drop_L21 leM a1 a3 post n0 0 1 0 ceM fM kM vM wiM moM waM wkM wvM)) ∧ (¬ a3 ≤ 64 → (post (-1) ceM fM kM vM wiM moM waM wkM wvM))))
def wp_M_has (ceM : Int32) (fM : Nat → Int32) (kM : Nat → Int64) (a1 : Int64) (post : Int32 → Prop) : Prop := wp_M_cellOf ceM fM kM a1 (fun r_1 => (r_1 < 0 → (post 0)) ∧ (¬ r_1 < 0 → (post 1)))
def wp_M_get (ceM : Int32) (fM : Nat → Int32) (kM : Nat → Int64) (vM : Nat → Int64) (a1 : Int64) (post : Int64 → Prop) : Prop := wp_M_cellOf ceM fM kM a1 (fun r_1 => (0 ≤ r_1 → (vp_in r_1 512 ∧ (post (vM r_1.toNatClampNeg)))) ∧ (¬ 0 ≤ r_1 → (post 0)))
def wp_M_floor_L7 (ceM : Int32) (fM : Nat → Int32) (kM : Nat → Int64) (x1 : Int64) (post : Int64 → Prop) : Nat → Int64 → Int32 → Prop
  | 0, _, _ => False
  | n + 1, x3, x5 => (ceM ≤ x5 → (post x3)) ∧ (¬ ceM ≤ x5 → (vp_in x5 512 ∧ (((fM x5.toNatClampNeg) = 0 → (wp_M_floor_L7 ceM fM kM x1 post n x3 (x5 + 1))) ∧ (¬ (fM x5.toNatClampNeg) = 0 → ((x1 < (kM x5.toNatClampNeg) → (wp_M_floor_L7 ceM fM kM x1 post n x3 (x5 + 1))) ∧ (¬ x1 < (kM x5.toNatClampNeg) → (wp_M_floor_L7 ceM fM kM x1 post n (kM x5.toNatClampNeg) (x5 + 1))))))))
def wp_M_floor (ceM : Int32) (fM : Nat → Int32) (kM : Nat → Int64) (a1 : Int64) (post : Int64 → Prop) : Prop := ∃ n0 : Nat, wp_M_floor_L7 ceM fM kM a1 post n0 NOK 0
def wp_M_select_L9 (ceM : Int32) (fM : Nat → Int32) (kM : Nat → Int64) (x1 : Int32) (post : Int64 → Prop) : Nat → Int32 → Int64 → Int32 → Prop
  | 0, _, _, _ => False
  | n + 1, x2, x3, x5 => (ceM ≤ x5 → (post x3)) ∧ (¬ ceM ≤ x5 → (vp_in x5 512 ∧ (((fM x5.toNatClampNeg) = 0 → (wp_M_select_L9 ceM fM kM x1 post n (x2 + 0) x3 (x5 + 1))) ∧ (¬ (fM x5.toNatClampNeg) = 0 → ((x2 = x1 → (wp_M_select_L9 ceM fM kM x1 post n (x2 + 1) (kM x5.toNatClampNeg) (x5 + 1))) ∧ (¬ x2 = x1 → (wp_M_select_L9 ceM fM kM x1 post n (x2 + 1) x3 (x5 + 1))))))))
def wp_M_select (ceM : Int32) (fM : Nat → Int32) (kM : Nat → Int64) (a1 : Int32) (post : Int64 → Prop) : Prop := ∃ n0 : Nat, wp_M_select_L9 ceM fM kM a1 post n0 0 NOK 0
def wp_M_count_L6 (ceM : Int32) (fM : Nat → Int32) (kM : Nat → Int64) (x1 : Int64) (x3 : Int64) (post : Int32 → Prop) : Nat → Int32 → Int32 → Prop
  | 0, _, _ => False
  | n + 1, x5, x6 => (ceM ≤ x6 → (post x5)) ∧ (¬ ceM ≤ x6 → (vp_in x6 512 ∧ (((fM x6.toNatClampNeg) = 0 → (wp_M_count_L6 ceM fM kM x1 x3 post n (x5 + 0) (x6 + 1))) ∧ (¬ (fM x6.toNatClampNeg) = 0 → (((kM x6.toNatClampNeg) < x1 → (wp_M_count_L6 ceM fM kM x1 x3 post n (x5 + 0) (x6 + 1))) ∧ (¬ (kM x6.toNatClampNeg) < x1 → ((x3 < (kM x6.toNatClampNeg) → (wp_M_count_L6 ceM fM kM x1 x3 post n (x5 + 0) (x6 + 1))) ∧ (¬ x3 < (kM x6.toNatClampNeg) → (wp_M_count_L6 ceM fM kM x1 x3 post n (x5 + 1) (x6 + 1))))))))))
def wp_M_count (ceM : Int32) (fM : Nat → Int32) (kM : Nat → Int64) (a1 : Int64) (a3 : Int64) (post : Int32 → Prop) : Prop := ∃ n0 : Nat, wp_M_count_L6 ceM fM kM a1 a3 post n0 0 0
def wp_M_sum_L6 (ceM : Int32) (fM : Nat → Int32) (kM : Nat → Int64) (vM : Nat → Int64) (x1 : Int64) (x3 : Int64) (post : Int64 → Prop) : Nat → Int64 → Int32 → Prop
  | 0, _, _ => False
  | n + 1, x5, x7 => (ceM ≤ x7 → (post x5)) ∧ (¬ ceM ≤ x7 → (vp_in x7 512 ∧ (((fM x7.toNatClampNeg) = 0 → (wp_M_sum_L6 ceM fM kM vM x1 x3 post n (x5 + 0) (x7 + 1))) ∧ (¬ (fM x7.toNatClampNeg) = 0 → (((kM x7.toNatClampNeg) < x1 → (wp_M_sum_L6 ceM fM kM vM x1 x3 post n (x5 + 0) (x7 + 1))) ∧ (¬ (kM x7.toNatClampNeg) < x1 → ((x3 < (kM x7.toNatClampNeg) → (wp_M_sum_L6 ceM fM kM vM x1 x3 post n (x5 + 0) (x7 + 1))) ∧ (¬ x3 < (kM x7.toNatClampNeg) → (wp_M_sum_L6 ceM fM kM vM x1 x3 post n (x5 + (vM x7.toNatClampNeg)) (x7 + 1))))))))))
def wp_M_sum (ceM : Int32) (fM : Nat → Int32) (kM : Nat → Int64) (vM : Nat → Int64) (a1 : Int64) (a3 : Int64) (post : Int64 → Prop) : Prop := ∃ n0 : Nat, wp_M_sum_L6 ceM fM kM vM a1 a3 post n0 0 0
def wp_M_size (ceM : Int32) (fM : Nat → Int32) (post : Int32 → Prop) : Prop := wp_M_held fM 0 ceM (fun r_1 => post r_1)
def wp_M_cells (ceM : Int32) (post : Int32 → Prop) : Prop := post ceM
def wp_M_cellKey (ceM : Int32) (fM : Nat → Int32) (kM : Nat → Int64) (a1 : Int32) (post : Int64 → Prop) : Prop := (a1 < 0 → (post NOK)) ∧ (¬ a1 < 0 → ((ceM ≤ a1 → (post NOK)) ∧ (¬ ceM ≤ a1 → (vp_in a1 512 ∧ (((fM a1.toNatClampNeg) = 0 → (post NOK)) ∧ (¬ (fM a1.toNatClampNeg) = 0 → (post (kM a1.toNatClampNeg))))))))
def wp_M_window (wiM : Int32) (post : Int32 → Prop) : Prop := post wiM
def wp_M_moved (moM : Int64) (post : Int64 → Prop) : Prop := post moM
def wp_L_loop (xs : Nat → Int32) (L : Nat) (llS leM : Int32) : Nat → Int32 → (Nat → Int64) → (Nat → Int64) → (Nat → Int32) → (Int32) → (Int32) → (Int64) → (Int32) → (Nat → Int32) → (Nat → Int64) → (Nat → Int64) → (Int32) → (Int64) → (Int32) → (Nat → Int64) → (Nat → Int64) → Prop
  | 0, _, _, _, _, _, _, _, _, _, _, _, _, _, _, _, _ => False
  | n + 1, x3, kS, vS, bS, lvS, lhS, mvS, ceM, fM, kM, vM, wiM, moM, waM, wkM, wvM => (((Int32.ofNat L) - 6) < x3 → (True)) ∧ (¬ ((Int32.ofNat L) - 6) < x3 → (vp_in x3 L ∧ ((((xs x3.toNatClampNeg) &&& 31) = 0 → (vp_in (x3 + 1) L ∧ (vp_in (x3 + 2) L ∧ (vp_in (x3 + 3) L ∧ (vp_in (x3 + 4) L ∧ (wp_S_put kS vS lvS lhS mvS (((xs (x3 + 1).toNatClampNeg).toInt64 <<< ((32 : Int32).toInt64 &&& 63)) ||| ((xs (x3 + 2).toNatClampNeg).toInt64 &&& 4294967295)) (((xs (x3 + 3).toNatClampNeg).toInt64 <<< ((32 : Int32).toInt64 &&& 63)) ||| ((xs (x3 + 4).toNatClampNeg).toInt64 &&& 4294967295)) (fun r_7 kS_8 vS_9 lvS_10 lhS_11 mvS_12 => wp_M_put ceM fM kM vM wiM moM waM wkM wvM (((xs (x3 + 1).toNatClampNeg).toInt64 <<< ((32 : Int32).toInt64 &&& 63)) ||| ((xs (x3 + 2).toNatClampNeg).toInt64 &&& 4294967295)) (((xs (x3 + 3).toNatClampNeg).toInt64 <<< ((32 : Int32).toInt64 &&& 63)) ||| ((xs (x3 + 4).toNatClampNeg).toInt64 &&& 4294967295)) (fun r_13 ceM_14 fM_15 kM_16 vM_17 wiM_18 moM_19 waM_20 wkM_21 wvM_22 => (r_7 = r_13 → (wp_L_loop xs L llS leM n (x3 + 6) kS_8 vS_9 bS lvS_10 lhS_11 mvS_12 ceM_14 fM_15 kM_16 vM_17 wiM_18 moM_19 waM_20 wkM_21 wvM_22)) ∧ (¬ r_7 = r_13 → (False)))))))))) ∧ (((xs x3.toNatClampNeg) &&& 31) = 1 → (vp_in (x3 + 1) L ∧ (vp_in (x3 + 2) L ∧ (vp_in (x3 + 3) L ∧ (vp_in (x3 + 4) L ∧ (vp_in (x3 + 5) L ∧ (wp_S_fill kS vS lvS lhS mvS (((xs (x3 + 1).toNatClampNeg).toInt64 <<< ((32 : Int32).toInt64 &&& 63)) ||| ((xs (x3 + 2).toNatClampNeg).toInt64 &&& 4294967295)) (((xs (x3 + 3).toNatClampNeg).toInt64 <<< ((32 : Int32).toInt64 &&& 63)) ||| ((xs (x3 + 4).toNatClampNeg).toInt64 &&& 4294967295)) (xs (x3 + 5).toNatClampNeg) (fun r_29 kS_30 vS_31 lvS_32 lhS_33 mvS_34 => wp_M_fill ceM fM kM vM wiM moM waM wkM wvM (((xs (x3 + 1).toNatClampNeg).toInt64 <<< ((32 : Int32).toInt64 &&& 63)) ||| ((xs (x3 + 2).toNatClampNeg).toInt64 &&& 4294967295)) (((xs (x3 + 3).toNatClampNeg).toInt64 <<< ((32 : Int32).toInt64 &&& 63)) ||| ((xs (x3 + 4).toNatClampNeg).toInt64 &&& 4294967295)) (xs (x3 + 5).toNatClampNeg) (fun r_35 ceM_36 fM_37 kM_38 vM_39 wiM_40 moM_41 waM_42 wkM_43 wvM_44 => (r_29 = r_35 → (wp_L_loop xs L llS leM n (x3 + 6) kS_30 vS_31 bS lvS_32 lhS_33 mvS_34 ceM_36 fM_37 kM_38 vM_39 wiM_40 moM_41 waM_42 wkM_43 wvM_44)) ∧ (¬ r_29 = r_35 → (False))))))))))) ∧ (((xs x3.toNatClampNeg) &&& 31) = 2 → (vp_in (x3 + 1) L ∧ (vp_in (x3 + 2) L ∧ (wp_S_remove kS vS llS lvS lhS mvS (((xs (x3 + 1).toNatClampNeg).toInt64 <<< ((32 : Int32).toInt64 &&& 63)) ||| ((xs (x3 + 2).toNatClampNeg).toInt64 &&& 4294967295)) (fun r_48 kS_49 vS_50 lvS_51 lhS_52 mvS_53 => wp_M_remove leM ceM fM kM vM wiM moM waM wkM wvM (((xs (x3 + 1).toNatClampNeg).toInt64 <<< ((32 : Int32).toInt64 &&& 63)) ||| ((xs (x3 + 2).toNatClampNeg).toInt64 &&& 4294967295)) (fun r_54 ceM_55 fM_56 kM_57 vM_58 wiM_59 moM_60 waM_61 wkM_62 wvM_63 => (r_48 = r_54 → (wp_L_loop xs L llS leM n (x3 + 6) kS_49 vS_50 bS lvS_51 lhS_52 mvS_53 ceM_55 fM_56 kM_57 vM_58 wiM_59 moM_60 waM_61 wkM_62 wvM_63)) ∧ (¬ r_48 = r_54 → (False)))))))) ∧ (((xs x3.toNatClampNeg) &&& 31) = 3 → (vp_in (x3 + 1) L ∧ (vp_in (x3 + 2) L ∧ (vp_in (x3 + 3) L ∧ (wp_S_drop kS vS llS lvS lhS mvS (((xs (x3 + 1).toNatClampNeg).toInt64 <<< ((32 : Int32).toInt64 &&& 63)) ||| ((xs (x3 + 2).toNatClampNeg).toInt64 &&& 4294967295)) (xs (x3 + 3).toNatClampNeg) (fun r_68 kS_69 vS_70 lvS_71 lhS_72 mvS_73 => wp_M_drop leM ceM fM kM vM wiM moM waM wkM wvM (((xs (x3 + 1).toNatClampNeg).toInt64 <<< ((32 : Int32).toInt64 &&& 63)) ||| ((xs (x3 + 2).toNatClampNeg).toInt64 &&& 4294967295)) (xs (x3 + 3).toNatClampNeg) (fun r_74 ceM_75 fM_76 kM_77 vM_78 wiM_79 moM_80 waM_81 wkM_82 wvM_83 => (r_68 = r_74 → (wp_L_loop xs L llS leM n (x3 + 6) kS_69 vS_70 bS lvS_71 lhS_72 mvS_73 ceM_75 fM_76 kM_77 vM_78 wiM_79 moM_80 waM_81 wkM_82 wvM_83)) ∧ (¬ r_68 = r_74 → (False))))))))) ∧ (((xs x3.toNatClampNeg) &&& 31) = 4 → (vp_in (x3 + 1) L ∧ (vp_in (x3 + 2) L ∧ (wp_S_has kS lvS (((xs (x3 + 1).toNatClampNeg).toInt64 <<< ((32 : Int32).toInt64 &&& 63)) ||| ((xs (x3 + 2).toNatClampNeg).toInt64 &&& 4294967295)) (fun r_87 => wp_M_has ceM fM kM (((xs (x3 + 1).toNatClampNeg).toInt64 <<< ((32 : Int32).toInt64 &&& 63)) ||| ((xs (x3 + 2).toNatClampNeg).toInt64 &&& 4294967295)) (fun r_88 => (r_87 = r_88 → (wp_L_loop xs L llS leM n (x3 + 6) kS vS bS lvS lhS mvS ceM fM kM vM wiM moM waM wkM wvM)) ∧ (¬ r_87 = r_88 → (False)))))))) ∧ (((xs x3.toNatClampNeg) &&& 31) = 5 → (vp_in (x3 + 1) L ∧ (vp_in (x3 + 2) L ∧ (wp_S_get kS vS lvS (((xs (x3 + 1).toNatClampNeg).toInt64 <<< ((32 : Int32).toInt64 &&& 63)) ||| ((xs (x3 + 2).toNatClampNeg).toInt64 &&& 4294967295)) (fun r_92 => wp_M_get ceM fM kM vM (((xs (x3 + 1).toNatClampNeg).toInt64 <<< ((32 : Int32).toInt64 &&& 63)) ||| ((xs (x3 + 2).toNatClampNeg).toInt64 &&& 4294967295)) (fun r_93 => (r_92 = r_93 → (wp_L_loop xs L llS leM n (x3 + 6) kS vS bS lvS lhS mvS ceM fM kM vM wiM moM waM wkM wvM)) ∧ (¬ r_92 = r_93 → (False)))))))) ∧ (((xs x3.toNatClampNeg) &&& 31) = 6 → (vp_in (x3 + 1) L ∧ (vp_in (x3 + 2) L ∧ (wp_S_floor kS lvS (((xs (x3 + 1).toNatClampNeg).toInt64 <<< ((32 : Int32).toInt64 &&& 63)) ||| ((xs (x3 + 2).toNatClampNeg).toInt64 &&& 4294967295)) (fun r_97 => wp_M_floor ceM fM kM (((xs (x3 + 1).toNatClampNeg).toInt64 <<< ((32 : Int32).toInt64 &&& 63)) ||| ((xs (x3 + 2).toNatClampNeg).toInt64 &&& 4294967295)) (fun r_98 => (r_97 = r_98 → (wp_L_loop xs L llS leM n (x3 + 6) kS vS bS lvS lhS mvS ceM fM kM vM wiM moM waM wkM wvM)) ∧ (¬ r_97 = r_98 → (False)))))))) ∧ (((xs x3.toNatClampNeg) &&& 31) = 7 → (vp_in (x3 + 1) L ∧ (vp_in (x3 + 2) L ∧ (wp_S_ceiling kS lvS (((xs (x3 + 1).toNatClampNeg).toInt64 <<< ((32 : Int32).toInt64 &&& 63)) ||| ((xs (x3 + 2).toNatClampNeg).toInt64 &&& 4294967295)) (fun r_102 => wp_M_ceiling ceM fM kM (((xs (x3 + 1).toNatClampNeg).toInt64 <<< ((32 : Int32).toInt64 &&& 63)) ||| ((xs (x3 + 2).toNatClampNeg).toInt64 &&& 4294967295)) (fun r_103 => (r_102 = r_103 → (wp_L_loop xs L llS leM n (x3 + 6) kS vS bS lvS lhS mvS ceM fM kM vM wiM moM waM wkM wvM)) ∧ (¬ r_102 = r_103 → (False)))))))) ∧ (((xs x3.toNatClampNeg) &&& 31) = 8 → (vp_in (x3 + 1) L ∧ (wp_S_select kS lvS (xs (x3 + 1).toNatClampNeg) (fun r_106 => wp_M_select ceM fM kM (xs (x3 + 1).toNatClampNeg) (fun r_107 => (r_106 = r_107 → (wp_L_loop xs L llS leM n (x3 + 6) kS vS bS lvS lhS mvS ceM fM kM vM wiM moM waM wkM wvM)) ∧ (¬ r_106 = r_107 → (False))))))) ∧ (((xs x3.toNatClampNeg) &&& 31) = 9 → (vp_in (x3 + 1) L ∧ (vp_in (x3 + 2) L ∧ (vp_in (x3 + 3) L ∧ (vp_in (x3 + 4) L ∧ (wp_S_count kS lvS (((xs (x3 + 1).toNatClampNeg).toInt64 <<< ((32 : Int32).toInt64 &&& 63)) ||| ((xs (x3 + 2).toNatClampNeg).toInt64 &&& 4294967295)) (((xs (x3 + 3).toNatClampNeg).toInt64 <<< ((32 : Int32).toInt64 &&& 63)) ||| ((xs (x3 + 4).toNatClampNeg).toInt64 &&& 4294967295)) (fun r_113 => wp_M_count ceM fM kM (((xs (x3 + 1).toNatClampNeg).toInt64 <<< ((32 : Int32).toInt64 &&& 63)) ||| ((xs (x3 + 2).toNatClampNeg).toInt64 &&& 4294967295)) (((xs (x3 + 3).toNatClampNeg).toInt64 <<< ((32 : Int32).toInt64 &&& 63)) ||| ((xs (x3 + 4).toNatClampNeg).toInt64 &&& 4294967295)) (fun r_114 => (r_113 = r_114 → (wp_L_loop xs L llS leM n (x3 + 6) kS vS bS lvS lhS mvS ceM fM kM vM wiM moM waM wkM wvM)) ∧ (¬ r_113 = r_114 → (False)))))))))) ∧ (((xs x3.toNatClampNeg) &&& 31) = 10 → (vp_in (x3 + 1) L ∧ (vp_in (x3 + 2) L ∧ (vp_in (x3 + 3) L ∧ (vp_in (x3 + 4) L ∧ (wp_S_sum kS vS lvS (((xs (x3 + 1).toNatClampNeg).toInt64 <<< ((32 : Int32).toInt64 &&& 63)) ||| ((xs (x3 + 2).toNatClampNeg).toInt64 &&& 4294967295)) (((xs (x3 + 3).toNatClampNeg).toInt64 <<< ((32 : Int32).toInt64 &&& 63)) ||| ((xs (x3 + 4).toNatClampNeg).toInt64 &&& 4294967295)) (fun r_120 => wp_M_sum ceM fM kM vM (((xs (x3 + 1).toNatClampNeg).toInt64 <<< ((32 : Int32).toInt64 &&& 63)) ||| ((xs (x3 + 2).toNatClampNeg).toInt64 &&& 4294967295)) (((xs (x3 + 3).toNatClampNeg).toInt64 <<< ((32 : Int32).toInt64 &&& 63)) ||| ((xs (x3 + 4).toNatClampNeg).toInt64 &&& 4294967295)) (fun r_121 => (r_120 = r_121 → (wp_L_loop xs L llS leM n (x3 + 6) kS vS bS lvS lhS mvS ceM fM kM vM wiM moM waM wkM wvM)) ∧ (¬ r_120 = r_121 → (False)))))))))) ∧ (((xs x3.toNatClampNeg) &&& 31) = 11 → (wp_S_size kS lvS (fun r_123 => wp_M_size ceM fM (fun r_124 => (r_123 = r_124 → (wp_L_loop xs L llS leM n (x3 + 6) kS vS bS lvS lhS mvS ceM fM kM vM wiM moM waM wkM wvM)) ∧ (¬ r_123 = r_124 → (False)))))) ∧ (((xs x3.toNatClampNeg) &&& 31) = 12 → (wp_S_cells lvS (fun r_126 => wp_M_cells ceM (fun r_127 => (r_126 = r_127 → (wp_L_loop xs L llS leM n (x3 + 6) kS vS bS lvS lhS mvS ceM fM kM vM wiM moM waM wkM wvM)) ∧ (¬ r_126 = r_127 → (False)))))) ∧ (((xs x3.toNatClampNeg) &&& 31) = 13 → (vp_in (x3 + 1) L ∧ (wp_S_cellKey kS lvS (xs (x3 + 1).toNatClampNeg) (fun r_130 => wp_M_cellKey ceM fM kM (xs (x3 + 1).toNatClampNeg) (fun r_131 => (r_130 = r_131 → (wp_L_loop xs L llS leM n (x3 + 6) kS vS bS lvS lhS mvS ceM fM kM vM wiM moM waM wkM wvM)) ∧ (¬ r_130 = r_131 → (False))))))) ∧ (((xs x3.toNatClampNeg) &&& 31) = 14 → (vp_in (x3 + 1) L ∧ (wp_S_place lvS (xs (x3 + 1).toNatClampNeg) (fun r_134 => wp_M_place ceM (xs (x3 + 1).toNatClampNeg) (fun r_135 => (r_134 = r_135 → (wp_L_loop xs L llS leM n (x3 + 6) kS vS bS lvS lhS mvS ceM fM kM vM wiM moM waM wkM wvM)) ∧ (¬ r_134 = r_135 → (False))))))) ∧ (((xs x3.toNatClampNeg) &&& 31) = 15 → (vp_in (x3 + 1) L ∧ (wp_S_borne kS lvS (xs (x3 + 1).toNatClampNeg) (fun r_138 => wp_M_borne ceM fM kM (xs (x3 + 1).toNatClampNeg) (fun r_139 => (r_138 = r_139 → (wp_L_loop xs L llS leM n (x3 + 6) kS vS bS lvS lhS mvS ceM fM kM vM wiM moM waM wkM wvM)) ∧ (¬ r_138 = r_139 → (False))))))) ∧ (((xs x3.toNatClampNeg) &&& 31) = 16 → (vp_in (x3 + 1) L ∧ (vp_in (x3 + 2) L ∧ (vp_in (x3 + 3) L ∧ (wp_S_touched kS bS lvS (((xs (x3 + 1).toNatClampNeg).toInt64 <<< ((32 : Int32).toInt64 &&& 63)) ||| ((xs (x3 + 2).toNatClampNeg).toInt64 &&& 4294967295)) (xs (x3 + 3).toNatClampNeg) (fun r_144 bS_145 => wp_M_touched ceM fM kM (((xs (x3 + 1).toNatClampNeg).toInt64 <<< ((32 : Int32).toInt64 &&& 63)) ||| ((xs (x3 + 2).toNatClampNeg).toInt64 &&& 4294967295)) (xs (x3 + 3).toNatClampNeg) (fun r_146 => (r_144 = r_146 → (wp_L_loop xs L llS leM n (x3 + 6) kS vS bS_145 lvS lhS mvS ceM fM kM vM wiM moM waM wkM wvM)) ∧ (¬ r_144 = r_146 → (False))))))))) ∧ (((xs x3.toNatClampNeg) &&& 31) = 17 → (wp_S_window lhS (fun r_148 => wp_M_window wiM (fun r_149 => (r_148 = r_149 → (wp_L_loop xs L llS leM n (x3 + 6) kS vS bS lvS lhS mvS ceM fM kM vM wiM moM waM wkM wvM)) ∧ (¬ r_148 = r_149 → (False)))))) ∧ (((xs x3.toNatClampNeg) &&& 31) = 18 → (wp_S_moved mvS (fun r_151 => wp_M_moved moM (fun r_152 => (r_151 = r_152 → (wp_L_loop xs L llS leM n (x3 + 6) kS vS bS lvS lhS mvS ceM fM kM vM wiM moM waM wkM wvM)) ∧ (¬ r_151 = r_152 → (False)))))) ∧ (wp_L_loop xs L llS leM n (x3 + 6) kS vS bS lvS lhS mvS ceM fM kM vM wiM moM waM wkM wvM))))
end
section
/-! Numbers, and what the cells hold: words for both sides. -/
theorem u_sl : ∀ n, n < 32 → ((nI n &&& 31).toBitVec.smod 32).toNat = n := by decide +kernel
theorem n_shl {a k : Nat} (hk : k < 32) (h : a * 2 ^ k < 2 ^ 32) : nI a <<< (nI k &&& 31) = nI (a * 2 ^ k) := pk_shlN _ k (u_sl k hk) h
theorem n_shr {a k : Nat} (ha : a < 2 ^ 31) (hk : k < 32) : nI a >>> (nI k &&& 31) = nI (a / 2 ^ k) := pk_shrN ha _ k (u_sl k hk)
theorem n_dec {a : Nat} (h : a < 2 ^ 31) : nI a + (-1) < nI a := by
  cases a with
  | zero => decide
  | succ a => rw [pk_m1]; exact nI_lt (by omega) h
theorem n_sub1 (x : Int32) : x - 1 = x + (-1) := Int32.sub_eq_add_neg x 1
theorem n_p1 {k : Nat} : 2 ^ (k + 1) = 2 * 2 ^ k := by rw [Nat.pow_succ]; omega
theorem n_pp (k : Nat) : 0 < 2 ^ k := Nat.two_pow_pos k
/-- the powers of two that occur -/
theorem n_p6 {t : Nat} (h : t ≤ 6) : 2 ^ t ≤ 64 := by
  have h2 : 2 ^ t ≤ 2 ^ 6 := Nat.pow_le_pow_right (by decide) h
  exact h2
theorem n_lit0 : (0 : Int32) = nI 0 := rfl
theorem n_lit1 : (1 : Int32) = nI 1 := rfl
theorem n_lit2 : (2 : Int32) = nI 2 := rfl
theorem n_lit4 : (4 : Int32) = nI 4 := rfl
theorem n_lit8 : (8 : Int32) = nI 8 := rfl
theorem n_m1 {a : Nat} (h : a < 2 ^ 31) : ¬ nI a = -1 := by
  intro e
  have := congrArg Int32.toInt e
  rw [nI_toInt h] at this
  have h2 : ((-1 : Int32)).toInt = -1 := by decide
  omega
theorem n_m1n {a : Nat} (h : a < 2 ^ 31) : ¬ nI a < 0 := nI_pos h
/-- how many of the cells a, a+1 .. (w of them) are full -/
def cnt (K : Nat → Int64) (a : Nat) : Nat → Nat
  | 0 => 0
  | w + 1 => cnt K a w + (if K (a + w) = NOK then 0 else 1)
theorem cnt_s (K : Nat → Int64) (a w : Nat) : cnt K a (w + 1) = cnt K a w + (if K (a + w) = NOK then 0 else 1) := rfl
theorem cnt_le (K : Nat → Int64) (a : Nat) : ∀ w, cnt K a w ≤ w
  | 0 => Nat.le_refl 0
  | w + 1 => by
    have h := cnt_le K a w
    rw [cnt_s]
    split <;> omega
theorem cnt_mono (K : Nat → Int64) (a w : Nat) : ∀ k, cnt K a w ≤ cnt K a (w + k)
  | 0 => Nat.le_refl _
  | k + 1 => by
    have h := cnt_mono K a w k
    rw [show w + (k + 1) = (w + k) + 1 from rfl, cnt_s]
    omega
theorem cnt_congr {K K' : Nat → Int64} {a : Nat} : ∀ {w : Nat}, (∀ i, i < w → (K (a + i) = NOK ↔ K' (a + i) = NOK)) → cnt K a w = cnt K' a w
  | 0, _ => rfl
  | w + 1, h => by
    rw [cnt_s, cnt_s, cnt_congr (fun i hi => h i (by omega))]
    have e := h w (by omega)
    by_cases c : K (a + w) = NOK
    · rw [if_pos c, if_pos (e.mp c)]
    · rw [if_neg c, if_neg (fun q => c (e.mpr q))]
/-- the greatest-placed key among the cells a .. a+w-1, or none -/
def gr (K : Nat → Int64) (a : Nat) : Nat → Int64
  | 0 => NOK
  | w + 1 => if K (a + w) = NOK then gr K a w else K (a + w)
theorem gr_s (K : Nat → Int64) (a w : Nat) : gr K a (w + 1) = if K (a + w) = NOK then gr K a w else K (a + w) := rfl
theorem gr_none {K : Nat → Int64} {a : Nat} : ∀ {w : Nat}, gr K a w = NOK → ∀ i, i < w → K (a + i) = NOK
  | 0, _, i, hi => absurd hi (by omega)
  | w + 1, h, i, hi => by
    rw [gr_s] at h
    by_cases c : K (a + w) = NOK
    · rw [if_pos c] at h
      rcases Nat.lt_or_ge i w with q | q
      · exact gr_none h i q
      · obtain rfl : i = w := by omega
        exact c
    · rw [if_neg c] at h
      exact absurd h c
theorem gr_some {K : Nat → Int64} {a : Nat} : ∀ {w : Nat}, gr K a w ≠ NOK → ∃ i, i < w ∧ K (a + i) = gr K a w
  | 0, h => absurd rfl h
  | w + 1, h => by
    rw [gr_s] at h ⊢
    by_cases c : K (a + w) = NOK
    · rw [if_pos c] at h ⊢
      obtain ⟨i, hi, e⟩ := gr_some h
      exact ⟨i, by omega, e⟩
    · rw [if_neg c]
      exact ⟨w, by omega, rfl⟩
/-- full cells rise -/
def Srt (K : Nat → Int64) : Prop := ∀ i j, i < j → j < 512 → K i ≠ NOK → K j ≠ NOK → K i < K j
theorem l_lt_of_le_of_lt {a b c : Int64} (h : a ≤ b) (h2 : b < c) : a < c := by
  rw [Int64.lt_iff_toInt_lt] at *; rw [Int64.le_iff_toInt_le] at *; omega
theorem l_lt_of_lt_of_le {a b c : Int64} (h : a < b) (h2 : b ≤ c) : a < c := by
  rw [Int64.lt_iff_toInt_lt] at *; rw [Int64.le_iff_toInt_le] at *; omega
theorem l_lt_trans {a b c : Int64} (h : a < b) (h2 : b < c) : a < c := by
  rw [Int64.lt_iff_toInt_lt] at *; omega
theorem l_le_of_lt {a b : Int64} (h : a < b) : a ≤ b := by
  rw [Int64.le_iff_toInt_le]; rw [Int64.lt_iff_toInt_lt] at h; omega
theorem l_nlt {a b : Int64} : ¬ a < b ↔ b ≤ a := by
  rw [Int64.le_iff_toInt_le, Int64.lt_iff_toInt_lt]; omega
theorem l_nle {a b : Int64} : ¬ a ≤ b ↔ b < a := by
  rw [Int64.le_iff_toInt_le, Int64.lt_iff_toInt_lt]; omega
theorem l_irr {a : Int64} : ¬ a < a := by rw [Int64.lt_iff_toInt_lt]; omega
theorem l_le_rf {a : Int64} : a ≤ a := by rw [Int64.le_iff_toInt_le]; omega
theorem l_anti {a b : Int64} (h : a ≤ b) (h2 : b ≤ a) : a = b := by
  apply Int64.toInt_inj.mp; rw [Int64.le_iff_toInt_le] at *; omega
theorem l_lt_of_le_ne {a b : Int64} (h : a ≤ b) (h2 : a ≠ b) : a < b := by
  rw [← l_nle]; exact fun q => h2 (l_anti h q)
theorem l_ne_of_lt {a b : Int64} (h : a < b) : a ≠ b := fun e => l_irr (e ▸ h)
end
section
/-! The store's readers. -/
theorem p_S_segments {t : Nat} {post : Int32 → Prop} (ht : t ≤ 6) (h : post (nI (2 ^ t))) : wp_S_segments (nI t) post := by
  unfold wp_S_segments
  have h2 := n_p6 ht
  rw [n_lit1, n_shl (by omega) (by omega), Nat.one_mul]
  exact h
theorem p_S_windowCells {t : Nat} {post : Int32 → Prop} (ht : t ≤ 6) (h : post (nI (8 * 2 ^ t))) : wp_S_windowCells (nI t) post := by
  unfold wp_S_windowCells
  have h2 := n_p6 ht
  rw [n_lit8, n_shl (by omega) (by omega)]
  exact h
theorem p_S_depthOf {d x : Nat} {post : Int32 → Prop} (h1 : 2 ^ d ≤ x) (h2 : x < 2 ^ (d + 1)) (hd : d ≤ 30) (h : post (nI d)) : wp_S_depthOf (nI x) post := by
  have key : ∀ k m j, 2 ^ k ≤ 2 * m + 1 → m < 2 ^ k → k + j = d → wp_S_depthOf_L6 post (k + 1) (nI j) (nI m) := by
    intro k
    induction k with
    | zero =>
      intro m j c1 c2 e
      rw [wp_S_depthOf_L6]
      obtain rfl : m = 0 := by have : (2 : Nat) ^ 0 = 1 := rfl; omega
      obtain rfl : j = d := by omega
      exact ⟨fun _ => h, fun c => absurd (by decide) c⟩
    | succ k ih =>
      intro m j c1 c2 e
      rw [n_p1] at c1 c2
      have hp := n_pp k
      have hk : 2 ^ (k + 1) ≤ 2 ^ 30 := Nat.pow_le_pow_right (by decide) (by omega)
      rw [n_p1] at hk
      rw [wp_S_depthOf_L6]
      refine pk_lt m 1 (fun q => absurd q (by omega)) (fun _ => ?_) rfl rfl (by omega) (by decide)
      rw [nI_1, n_lit2, pk_div (by omega) (by decide) (by decide)]
      exact ih (m / 2) (j + 1) (by omega) (by omega) (by omega)
  unfold wp_S_depthOf
  have hd2 : 2 ^ (d + 1) ≤ 2 ^ 31 := Nat.pow_le_pow_right (by decide) (by omega)
  rw [n_p1] at h2
  refine ⟨d + 1, ?_⟩
  rw [n_lit2, pk_div (by rw [n_p1] at hd2; omega) (by decide) (by decide)]
  exact key d (x / 2) 0 (by omega) (by omega) (by omega)
theorem p_S_greatestKey {K : Nat → Int64} {a w : Nat} {post : Int64 → Prop} (hw : a + w ≤ 512) (h : post (gr K a w)) : wp_S_greatestKey K (nI a) (nI w) post := by
  have key : ∀ i, i ≤ w → post (gr K a i) → wp_S_greatestKey_L6 K (nI a) post (i + 1) (nI (a + i) + (-1)) := by
    intro i
    induction i with
    | zero =>
      intro _ hp
      rw [wp_S_greatestKey_L6]
      exact ⟨fun _ => hp, fun c => absurd (n_dec (by omega)) c⟩
    | succ i ih =>
      intro hi hp
      rw [wp_S_greatestKey_L6, show a + (i + 1) = (a + i) + 1 from rfl, pk_m1, nI_clamp (by omega)]
      refine ⟨fun c => absurd c (nI_nlt (by omega) (by omega)), fun _ => ⟨vp_in_nI (by omega) (by decide), ?_⟩⟩
      rw [gr_s] at hp
      refine ⟨fun c => ?_, fun c => ?_⟩
      · rw [if_pos c] at hp
        exact ih (by omega) hp
      · rw [if_neg c] at hp
        exact hp
  unfold wp_S_greatestKey
  refine ⟨w + 1, ?_⟩
  rw [nI_add, n_sub1]
  exact key w (Nat.le_refl w) h
/-- what a node bears: node x at depth d of a tree of height t -/
def bear (K : Nat → Int64) (t d x : Nat) : Int64 := gr K (8 * ((x - 2 ^ d) * 2 ^ (t - d))) (8 * 2 ^ (t - d - 1))
theorem n_node {t d x : Nat} (ht : t ≤ 6) (hd : d < t) (h1 : 2 ^ d ≤ x) (h2 : x < 2 ^ (d + 1)) : 2 * x * 2 ^ (t - d - 1) = x * 2 ^ (t - d) ∧ 2 ^ t ≤ x * 2 ^ (t - d) ∧ x * 2 ^ (t - d) - 2 ^ t = (x - 2 ^ d) * 2 ^ (t - d) ∧ (x - 2 ^ d) * 2 ^ (t - d) + 2 ^ (t - d) ≤ 2 ^ t ∧ 2 ^ (t - d) = 2 * 2 ^ (t - d - 1) := by
  obtain ⟨r, rfl⟩ : ∃ r, t = d + 1 + r := ⟨t - (d + 1), by omega⟩
  have e1 : d + 1 + r - d = r + 1 := by omega
  have e2 : d + 1 + r - d - 1 = r := by omega
  obtain ⟨y, rfl⟩ : ∃ y, x = 2 ^ d + y := ⟨x - 2 ^ d, by omega⟩
  rw [n_p1] at h2
  have p1 : 2 ^ (r + 1) = 2 * 2 ^ r := n_p1
  have p2 : 2 ^ (d + 1 + r) = 2 * 2 ^ d * 2 ^ r := by rw [Nat.pow_add, n_p1]
  rw [e2, e1, p1, p2, Nat.add_sub_cancel_left, Nat.add_mul]
  have hr := n_pp r
  have ha : 2 * 2 ^ d * 2 ^ r = 2 ^ d * (2 * 2 ^ r) := by rw [Nat.mul_comm 2 (2 ^ d), Nat.mul_assoc]
  have hb : 2 * (2 ^ d + y) * 2 ^ r = 2 ^ d * (2 * 2 ^ r) + y * (2 * 2 ^ r) := by rw [Nat.mul_comm 2 (2 ^ d + y), Nat.mul_assoc, Nat.add_mul]
  have hc : (y + 1) * (2 * 2 ^ r) ≤ 2 ^ d * (2 * 2 ^ r) := Nat.mul_le_mul_right _ (by omega)
  rw [Nat.add_mul, Nat.one_mul] at hc
  rw [ha]
  exact ⟨hb, by omega, by omega, by omega, rfl⟩
theorem p_S_borneBy {K : Nat → Int64} {t d x : Nat} {post : Int64 → Prop} (ht : t ≤ 6) (hd : d < t) (h1 : 2 ^ d ≤ x) (h2 : x < 2 ^ (d + 1)) (h : post (bear K t d x)) : wp_S_borneBy K (nI t) (nI x) post := by
  obtain ⟨e1, e2, e3, e4, e5⟩ := n_node ht hd h1 h2
  have hp := n_p6 ht
  have hq := n_pp (t - d - 1)
  have hx : x < 128 := by
    have : 2 ^ (d + 1) ≤ 2 ^ 7 := Nat.pow_le_pow_right (by decide) (by omega)
    omega
  unfold wp_S_borneBy
  refine p_S_depthOf h1 h2 (by omega) ?_
  refine p_S_segments ht ?_
  rw [pk_sub (by omega), n_lit1, pk_sub (by omega)]
  refine p_S_windowCells (by omega) ?_
  rw [n_lit2, pk_mul, n_shl (by omega) (by rw [e1]; omega), e1, pk_sub e2, e3, n_lit8, pk_mul, Nat.mul_comm _ 8]
  exact p_S_greatestKey (by omega) h
/-- the road of a search: the node at depth d -/
def nd (K : Nat → Int64) (t : Nat) (key : Int64) : Nat → Nat
  | 0 => 1
  | d + 1 => if bear K t d (nd K t key d) = NOK ∨ bear K t d (nd K t key d) < key then 2 * nd K t key d + 1 else 2 * nd K t key d
theorem nd_s (K : Nat → Int64) (t : Nat) (key : Int64) (d : Nat) : nd K t key (d + 1) = if bear K t d (nd K t key d) = NOK ∨ bear K t d (nd K t key d) < key then 2 * nd K t key d + 1 else 2 * nd K t key d := rfl
theorem nd_in (K : Nat → Int64) (t : Nat) (key : Int64) : ∀ d, 2 ^ d ≤ nd K t key d ∧ nd K t key d < 2 ^ (d + 1)
  | 0 => by rw [nd]; decide
  | d + 1 => by
    have h := nd_in K t key d
    have e : 2 ^ (d + 1 + 1) = 2 * 2 ^ (d + 1) := n_p1
    have e2 : 2 ^ (d + 1) = 2 * 2 ^ d := n_p1
    rw [nd_s]
    split <;> omega
/-- the segment that a search reaches -/
def sg (K : Nat → Int64) (t : Nat) (key : Int64) : Nat := nd K t key t - 2 ^ t
theorem sg_lt (K : Nat → Int64) (t : Nat) (key : Int64) : sg K t key < 2 ^ t := by
  have h := nd_in K t key t
  rw [n_p1] at h
  unfold sg
  omega
theorem p_S_seek {K : Nat → Int64} {t : Nat} {key : Int64} {post : Int32 → Prop} (ht : t ≤ 6) (h : post (nI (sg K t key))) : wp_S_seek K (nI t) key post := by
  have key2 : ∀ k d, d + k = t → wp_S_seek_L5 K (nI t) key post (k + 1) (nI (nd K t key d)) (nI d) := by
    intro k
    induction k with
    | zero =>
      intro d e
      obtain rfl : d = t := by omega
      rw [wp_S_seek_L5]
      refine ⟨fun _ => ?_, fun c => absurd (nI_le (Nat.le_refl _) (by omega)) c⟩
      refine p_S_segments ht ?_
      rw [pk_sub (nd_in K d key d).1]
      exact h
    | succ k ih =>
      intro d e
      have hn := nd_in K t key d
      rw [wp_S_seek_L5]
      refine ⟨fun c => absurd c (nI_ge (by omega) (by omega)), fun _ => ?_⟩
      refine p_S_borneBy ht (by omega) hn.1 hn.2 ?_
      have hi := ih (d + 1) (by omega)
      rw [nd_s] at hi
      rw [n_lit2, pk_mul, nI_1, nI_1]
      refine ⟨fun c => ?_, fun c => ⟨fun c2 => ?_, fun c2 => ?_⟩⟩
      · rw [if_pos (Or.inl c)] at hi; exact hi
      · rw [if_pos (Or.inr c2)] at hi; exact hi
      · rw [if_neg (fun q => q.elim c c2)] at hi; exact hi
  unfold wp_S_seek
  exact ⟨t + 1, key2 t 0 (by omega)⟩
theorem p_S_keysAmong {K : Nat → Int64} {a w : Nat} {post : Int32 → Prop} (h : a + w ≤ 512) (hp : post (nI (cnt K a w))) : wp_S_keysAmong K (nI a) (nI w) post := by
  have key : ∀ k i, i + k = w → wp_S_keysAmong_L5 K (nI a) (nI w) post (k + 1) (nI (cnt K a i)) (nI (a + i)) := by
    intro k
    induction k with
    | zero =>
      intro i hi
      obtain rfl : i = w := by omega
      rw [wp_S_keysAmong_L5, nI_add]
      exact ⟨fun _ => hp, fun c => absurd (nI_le (Nat.le_refl _) (by omega)) c⟩
    | succ k ih =>
      intro i hi
      have hh := ih (i + 1) (by omega)
      rw [cnt_s] at hh
      rw [wp_S_keysAmong_L5, nI_add, nI_clamp (by omega), nI_1, nI_1]
      refine ⟨fun c => absurd c (nI_ge (by omega) (by omega)), fun _ => ⟨vp_in_nI (by omega) (by decide), fun c => ?_, fun c => ?_⟩⟩
      · rw [if_pos c] at hh; exact hh
      · rw [if_neg c] at hh; exact hh
  unfold wp_S_keysAmong
  exact ⟨w + 1, key w 0 (by omega)⟩
end
section
/-! The reference's readers, in the store's words: K is what the store's cells hold. -/
def Rm (K : Nat → Int64) (F : Nat → Int32) (J : Nat → Int64) : Prop := ∀ i, i < 512 → (F i = 0 ↔ K i = NOK) ∧ (K i ≠ NOK → J i = K i)
theorem p_M_segments {t : Nat} {post : Int32 → Prop} (ht : t ≤ 6) (h : post (nI (2 ^ t))) : wp_M_segments (nI (8 * 2 ^ t)) post := by
  unfold wp_M_segments
  have h2 := n_p6 ht
  rw [n_lit8, pk_div (by omega) (by decide) (by decide), Nat.mul_div_cancel_left _ (by decide)]
  exact h
theorem p_M_levels {t : Nat} {post : Int32 → Prop} (ht : t ≤ 6) (h : post (nI t)) : wp_M_levels (nI (8 * 2 ^ t)) post := by
  have key : ∀ k j, k + j = t → wp_M_levels_L7 (nI (8 * 2 ^ t)) post (k + 1) (nI j) (nI (2 ^ k)) := by
    intro k
    induction k with
    | zero =>
      intro j e
      obtain rfl : j = t := by omega
      rw [wp_M_levels_L7]
      exact ⟨fun _ => h, fun c => absurd (by decide) c⟩
    | succ k ih =>
      intro j e
      have hp := n_pp k
      have hk := n_p6 (show k + 1 ≤ 6 by omega)
      rw [n_p1] at hk
      rw [wp_M_levels_L7, n_p1]
      refine pk_le (2 * 2 ^ k) 1 (fun q => absurd q (by omega)) (fun _ => ?_) rfl rfl (by omega) (by decide)
      rw [nI_1, n_lit2, pk_div (by omega) (by decide) (by decide), Nat.mul_div_cancel_left _ (by decide)]
      exact ih (j + 1) (by omega)
  unfold wp_M_levels
  refine p_M_segments ht ?_
  exact ⟨t + 1, key t 0 (by omega)⟩
theorem p_M_levelOf {d x : Nat} {post : Int32 → Prop} (h1 : 2 ^ d ≤ x) (h2 : x < 2 ^ (d + 1)) (hd : d ≤ 29) (h : post (nI d)) : wp_M_levelOf (nI x) post := by
  have key : ∀ k m j, 2 ^ k ≤ m → m < 2 ^ (k + 1) → k + j = d → wp_M_levelOf_L4 post (k + 1) (nI j) (nI m) := by
    intro k
    induction k with
    | zero =>
      intro m j c1 c2 e
      obtain rfl : m = 1 := by have e0 : (2 : Nat) ^ 0 = 1 := rfl; have e1 : (2 : Nat) ^ (0 + 1) = 2 := rfl; omega
      obtain rfl : j = d := by omega
      rw [wp_M_levelOf_L4]
      exact ⟨fun _ => h, fun c => absurd (by decide) c⟩
    | succ k ih =>
      intro m j c1 c2 e
      have e2 : 2 ^ (k + 1 + 1) = 2 * 2 ^ (k + 1) := n_p1
      have e1 : 2 ^ (k + 1) = 2 * 2 ^ k := n_p1
      have hp := n_pp k
      have hk : 2 ^ (k + 1 + 1) ≤ 2 ^ 30 := Nat.pow_le_pow_right (by decide) (by omega)
      rw [wp_M_levelOf_L4]
      refine pk_le m 1 (fun q => absurd q (by omega)) (fun _ => ?_) rfl rfl (by omega) (by decide)
      rw [nI_1, n_lit2, pk_div (by omega) (by decide) (by decide)]
      exact ih (m / 2) (j + 1) (by omega) (by omega) (by omega)
  unfold wp_M_levelOf
  exact ⟨d + 1, key d x 0 h1 h2 (by omega)⟩
theorem p_M_greatest {K : Nat → Int64} {F : Nat → Int32} {J : Nat → Int64} {a w : Nat} {post : Int64 → Prop} (hR : Rm K F J) (hw : 8 * (a + w) ≤ 512) (h : post (gr K (8 * a) (8 * w))) : wp_M_greatest F J (nI a) (nI w) post := by
  have key : ∀ k i, i + k = 8 * w → wp_M_greatest_L10 F J (nI a) (nI w) post (k + 1) (gr K (8 * a) i) (nI (8 * a + i)) := by
    intro k
    induction k with
    | zero =>
      intro i hi
      obtain rfl : i = 8 * w := by omega
      rw [wp_M_greatest_L10, nI_add, n_lit8, pk_mul]
      exact ⟨fun _ => h, fun c => absurd (nI_le (by omega) (by omega)) c⟩
    | succ k ih =>
      intro i hi
      have hh := ih (i + 1) (by omega)
      rw [gr_s] at hh
      obtain ⟨r1, r2⟩ := hR (8 * a + i) (by omega)
      rw [wp_M_greatest_L10, nI_add, n_lit8, pk_mul, nI_clamp (by omega), nI_1]
      refine ⟨fun c => absurd c (nI_ge (by omega) (by omega)), fun _ => ⟨vp_in_nI (by omega) (by decide), fun c => ?_, fun c => ?_⟩⟩
      · rw [if_pos (r1.mp c)] at hh; exact hh
      · have c2 : ¬ K (8 * a + i) = NOK := fun q => c (r1.mpr q)
        rw [if_neg c2] at hh; rw [r2 c2]; exact hh
  unfold wp_M_greatest
  refine ⟨8 * w + 1, ?_⟩
  rw [n_lit8, pk_mul]
  exact key (8 * w) 0 (by omega)
theorem p_M_bears {K : Nat → Int64} {F : Nat → Int32} {J : Nat → Int64} {t d x : Nat} {post : Int64 → Prop} (hR : Rm K F J) (ht : t ≤ 6) (hd : d < t) (h1 : 2 ^ d ≤ x) (h2 : x < 2 ^ (d + 1)) (h : post (bear K t d x)) : wp_M_bears (nI (8 * 2 ^ t)) F J (nI x) post := by
  obtain ⟨e1, e2, e3, e4, e5⟩ := n_node ht hd h1 h2
  have hp := n_p6 ht
  have hpd := n_p6 (show d ≤ 6 by omega)
  unfold wp_M_bears
  refine p_M_segments ht ?_
  refine p_M_levelOf h1 h2 (by omega) ?_
  refine p_M_levelOf h1 h2 (by omega) ?_
  rw [n_shr (by omega) (by omega), Nat.pow_div (by omega) (by decide), n_lit1, n_shl (by omega) (by omega), Nat.one_mul, pk_sub h1, pk_mul, n_lit2, pk_div (by omega) (by decide) (by decide)]
  refine p_M_greatest hR ?_ ?_
  · omega
  · rw [show 2 ^ (t - d) / 2 = 2 ^ (t - d - 1) by omega]
    exact h
theorem p_M_step {K : Nat → Int64} {F : Nat → Int32} {J : Nat → Int64} {t d x : Nat} {key : Int64} {post : Int32 → Prop} (hR : Rm K F J) (ht : t ≤ 6) (hd : d < t) (h1 : 2 ^ d ≤ x) (h2 : x < 2 ^ (d + 1)) (h : post (nI (if bear K t d x = NOK ∨ bear K t d x < key then 2 * x + 1 else 2 * x))) : wp_M_step (nI (8 * 2 ^ t)) F J (nI x) key post := by
  unfold wp_M_step
  refine p_M_bears hR ht hd h1 h2 ?_
  rw [n_lit2, pk_mul, nI_1]
  refine ⟨fun c => ?_, fun c => ⟨fun c2 => ?_, fun c2 => ?_⟩⟩
  · rw [if_pos (Or.inl c)] at h; exact h
  · rw [if_pos (Or.inr c2)] at h; exact h
  · rw [if_neg (fun q => q.elim c c2)] at h; exact h
theorem p_M_seek {K : Nat → Int64} {F : Nat → Int32} {J : Nat → Int64} {t : Nat} {key : Int64} {post : Int32 → Prop} (hR : Rm K F J) (ht : t ≤ 6) (h : post (nI (sg K t key))) : wp_M_seek (nI (8 * 2 ^ t)) F J key post := by
  have hp := n_p6 ht
  have key2 : ∀ k d, d + k = t → wp_M_seek_L2 (nI (8 * 2 ^ t)) F J key post (k + 1) (nI (nd K t key d)) := by
    intro k
    induction k with
    | zero =>
      intro d e
      obtain rfl : d = t := by omega
      have hn := nd_in K d key d
      rw [wp_M_seek_L2]
      refine p_M_segments ht ?_
      refine ⟨fun _ => ?_, fun c => absurd (nI_le hn.1 (by rw [n_p1] at hn; omega)) c⟩
      refine p_M_segments ht ?_
      rw [pk_sub hn.1]
      exact h
    | succ k ih =>
      intro d e
      have hn := nd_in K t key d
      have hq : 2 ^ (d + 1) ≤ 2 ^ t := Nat.pow_le_pow_right (by decide) (by omega)
      have hi := ih (d + 1) (by omega)
      rw [nd_s] at hi
      rw [wp_M_seek_L2]
      refine p_M_segments ht ?_
      refine ⟨fun c => absurd c (nI_ge (by omega) (by omega)), fun _ => ?_⟩
      exact p_M_step hR ht (by omega) hn.1 hn.2 hi
  unfold wp_M_seek
  exact ⟨t + 1, key2 t 0 (by omega)⟩
theorem p_M_held {K : Nat → Int64} {F : Nat → Int32} {J : Nat → Int64} {a w : Nat} {post : Int32 → Prop} (hR : Rm K F J) (h : a + w ≤ 512) (hp : post (nI (cnt K a w))) : wp_M_held F (nI a) (nI w) post := by
  have key : ∀ k i, i + k = w → wp_M_held_L5 F (nI a) (nI w) post (k + 1) (nI (cnt K a i)) (nI (a + i)) := by
    intro k
    induction k with
    | zero =>
      intro i hi
      obtain rfl : i = w := by omega
      rw [wp_M_held_L5, nI_add]
      exact ⟨fun _ => hp, fun c => absurd (nI_le (Nat.le_refl _) (by omega)) c⟩
    | succ k ih =>
      intro i hi
      have hh := ih (i + 1) (by omega)
      obtain ⟨r1, r2⟩ := hR (a + i) (by omega)
      rw [cnt_s] at hh
      rw [wp_M_held_L5, nI_add, nI_clamp (by omega), nI_1, nI_1, n_lit0, nI_add]
      refine ⟨fun c => absurd c (nI_ge (by omega) (by omega)), fun _ => ⟨vp_in_nI (by omega) (by decide), fun c => ?_, fun c => ?_⟩⟩
      · rw [if_pos (r1.mp c)] at hh; exact hh
      · rw [if_neg (fun q => c (r1.mpr q))] at hh; exact hh
  unfold wp_M_held
  exact ⟨w + 1, key w 0 (by omega)⟩
/-! The simple answers. -/
/-- the last cell's key that is no greater than key -/
def fl (K : Nat → Int64) (key : Int64) : Nat → Int64
  | 0 => NOK
  | w + 1 => if K w ≠ NOK ∧ K w ≤ key then K w else fl K key w
theorem fl_s (K : Nat → Int64) (key : Int64) (w : Nat) : fl K key (w + 1) = if K w ≠ NOK ∧ K w ≤ key then K w else fl K key w := rfl
theorem p_S_cells {t : Nat} {post : Int32 → Prop} (ht : t ≤ 6) (h : post (nI (8 * 2 ^ t))) : wp_S_cells (nI t) post := by
  unfold wp_S_cells
  exact p_S_windowCells ht h
theorem p_S_floor {K : Nat → Int64} {t : Nat} {key : Int64} {post : Int64 → Prop} (ht : t ≤ 6) (h : post (fl K key (8 * 2 ^ t))) : wp_S_floor K (nI t) key post := by
  have hp := n_p6 ht
  have key2 : ∀ i, i ≤ 512 → post (fl K key i) → wp_S_floor_L7 K (nI t) key post (i + 1) (nI i + (-1)) := by
    intro i
    induction i with
    | zero =>
      intro _ hq
      rw [wp_S_floor_L7]
      exact ⟨fun _ => hq, fun c => absurd (by decide) c⟩
    | succ i ih =>
      intro hi hq
      rw [fl_s] at hq
      rw [wp_S_floor_L7, pk_m1, nI_clamp (by omega)]
      refine ⟨fun c => absurd c (nI_pos (by omega)), fun _ => ⟨vp_in_nI (by omega) (by decide), fun c => ?_, fun c => ⟨fun c2 => ?_, fun c2 => ?_⟩⟩⟩
      · rw [if_neg (fun q => q.1 c)] at hq; exact ih (by omega) hq
      · rw [if_neg (fun q => l_nle.mpr c2 q.2)] at hq; exact ih (by omega) hq
      · rw [if_pos ⟨c, l_nlt.mp c2⟩] at hq; exact hq
  unfold wp_S_floor
  refine p_S_cells ht ?_
  refine ⟨8 * 2 ^ t + 1, ?_⟩
  rw [n_sub1]
  exact key2 _ (by omega) h
theorem p_M_floor {K : Nat → Int64} {F : Nat → Int32} {J : Nat → Int64} {c0 : Nat} {key : Int64} {post : Int64 → Prop} (hR : Rm K F J) (hc : c0 ≤ 512) (h : post (fl K key c0)) : wp_M_floor (nI c0) F J key post := by
  have key2 : ∀ k i, i + k = c0 → wp_M_floor_L7 (nI c0) F J key post (k + 1) (fl K key i) (nI i) := by
    intro k
    induction k with
    | zero =>
      intro i hi
      obtain rfl : i = c0 := by omega
      rw [wp_M_floor_L7]
      exact ⟨fun _ => h, fun c => absurd (nI_le (Nat.le_refl _) (by omega)) c⟩
    | succ k ih =>
      intro i hi
      have hh := ih (i + 1) (by omega)
      rw [fl_s] at hh
      obtain ⟨r1, r2⟩ := hR i (by omega)
      rw [wp_M_floor_L7, nI_clamp (by omega), nI_1]
      refine ⟨fun c => absurd c (nI_ge (by omega) (by omega)), fun _ => ⟨vp_in_nI (by omega) (by decide), fun c => ?_, fun c => ?_⟩⟩
      · rw [if_neg (fun q => q.1 (r1.mp c))] at hh; exact hh
      · have c3 : K i ≠ NOK := fun q => c (r1.mpr q)
        rw [r2 c3]
        refine ⟨fun c2 => ?_, fun c2 => ?_⟩
        · rw [if_neg (fun q => l_nle.mpr c2 q.2)] at hh; exact hh
        · rw [if_pos ⟨c3, l_nlt.mp c2⟩] at hh; exact hh
  unfold wp_M_floor
  exact ⟨c0 + 1, key2 c0 0 (by omega)⟩
/-- how many cells hold a key between two others -/
def ctb (K : Nat → Int64) (lo hi : Int64) : Nat → Nat
  | 0 => 0
  | w + 1 => ctb K lo hi w + (if K w ≠ NOK ∧ lo ≤ K w ∧ K w ≤ hi then 1 else 0)
theorem ctb_s (K : Nat → Int64) (lo hi : Int64) (w : Nat) : ctb K lo hi (w + 1) = ctb K lo hi w + (if K w ≠ NOK ∧ lo ≤ K w ∧ K w ≤ hi then 1 else 0) := rfl
def smb (K V : Nat → Int64) (lo hi : Int64) : Nat → Int64
  | 0 => 0
  | w + 1 => smb K V lo hi w + (if K w ≠ NOK ∧ lo ≤ K w ∧ K w ≤ hi then V w else 0)
theorem smb_s (K V : Nat → Int64) (lo hi : Int64) (w : Nat) : smb K V lo hi (w + 1) = smb K V lo hi w + (if K w ≠ NOK ∧ lo ≤ K w ∧ K w ≤ hi then V w else 0) := rfl
theorem p_S_isHeld {K : Nat → Int64} {i : Nat} {lo hi : Int64} {post : Int32 → Prop} (h : i < 512) (h1 : (K i ≠ NOK ∧ lo ≤ K i ∧ K i ≤ hi) → post 1) (h0 : ¬ (K i ≠ NOK ∧ lo ≤ K i ∧ K i ≤ hi) → post 0) : wp_S_isHeldBetween K (nI i) lo hi post := by
  unfold wp_S_isHeldBetween
  rw [nI_clamp (by omega)]
  refine ⟨vp_in_nI h (by decide), fun c => h0 (fun q => q.1 c), fun c => ⟨fun c2 => h0 (fun q => l_nle.mpr c2 q.2.1), fun c2 => ⟨fun c3 => h0 (fun q => l_nle.mpr c3 q.2.2), fun c3 => h1 ⟨c, l_nlt.mp c2, l_nlt.mp c3⟩⟩⟩⟩
theorem p_S_count {K : Nat → Int64} {t : Nat} {lo hi : Int64} {post : Int32 → Prop} (ht : t ≤ 6) (h : post (nI (ctb K lo hi (8 * 2 ^ t)))) : wp_S_count K (nI t) lo hi post := by
  have hp := n_p6 ht
  have key2 : ∀ k i, i + k = 8 * 2 ^ t → wp_S_count_L6 K (nI t) lo hi post (k + 1) (nI (ctb K lo hi i)) (nI i) := by
    intro k
    induction k with
    | zero =>
      intro i e
      obtain rfl : i = 8 * 2 ^ t := by omega
      rw [wp_S_count_L6]
      refine p_S_cells ht ?_
      exact ⟨fun _ => h, fun c => absurd (nI_le (Nat.le_refl _) (by omega)) c⟩
    | succ k ih =>
      intro i e
      have hh := ih (i + 1) (by omega)
      rw [ctb_s] at hh
      rw [wp_S_count_L6]
      refine p_S_cells ht ?_
      rw [nI_1, nI_1]
      refine ⟨fun c => absurd c (nI_ge (by omega) (by omega)), fun _ => ?_⟩
      refine p_S_isHeld (by omega) (fun q => ?_) (fun q => ?_)
      · rw [if_pos q] at hh
        exact ⟨fun c => absurd c (by decide), fun _ => hh⟩
      · rw [if_neg q] at hh
        exact ⟨fun _ => hh, fun c => absurd rfl c⟩
  unfold wp_S_count
  exact ⟨8 * 2 ^ t + 1, key2 _ 0 (by omega)⟩
theorem p_M_count {K : Nat → Int64} {F : Nat → Int32} {J : Nat → Int64} {c0 : Nat} {lo hi : Int64} {post : Int32 → Prop} (hR : Rm K F J) (hc : c0 ≤ 512) (h : post (nI (ctb K lo hi c0))) : wp_M_count (nI c0) F J lo hi post := by
  have key2 : ∀ k i, i + k = c0 → wp_M_count_L6 (nI c0) F J lo hi post (k + 1) (nI (ctb K lo hi i)) (nI i) := by
    intro k
    induction k with
    | zero =>
      intro i e
      obtain rfl : i = c0 := by omega
      rw [wp_M_count_L6]
      exact ⟨fun _ => h, fun c => absurd (nI_le (Nat.le_refl _) (by omega)) c⟩
    | succ k ih =>
      intro i e
      have hh := ih (i + 1) (by omega)
      rw [ctb_s] at hh
      obtain ⟨r1, r2⟩ := hR i (by omega)
      rw [wp_M_count_L6, nI_clamp (by omega), nI_1, nI_1, n_lit0, nI_add]
      refine ⟨fun c => absurd c (nI_ge (by omega) (by omega)), fun _ => ⟨vp_in_nI (by omega) (by decide), fun c => ?_, fun c => ?_⟩⟩
      · rw [if_neg (fun q => q.1 (r1.mp c))] at hh; exact hh
      · have c3 : K i ≠ NOK := fun q => c (r1.mpr q)
        rw [r2 c3]
        refine ⟨fun c2 => ?_, fun c2 => ⟨fun c4 => ?_, fun c4 => ?_⟩⟩
        · rw [if_neg (fun q => l_nle.mpr c2 q.2.1)] at hh; exact hh
        · rw [if_neg (fun q => l_nle.mpr c4 q.2.2)] at hh; exact hh
        · rw [if_pos ⟨c3, l_nlt.mp c2, l_nlt.mp c4⟩] at hh; exact hh
  unfold wp_M_count
  exact ⟨c0 + 1, key2 c0 0 (by omega)⟩
theorem p_S_sum {K V : Nat → Int64} {t : Nat} {lo hi : Int64} {post : Int64 → Prop} (ht : t ≤ 6) (h : post (smb K V lo hi (8 * 2 ^ t))) : wp_S_sum K V (nI t) lo hi post := by
  have hp := n_p6 ht
  have key2 : ∀ k i, i + k = 8 * 2 ^ t → wp_S_sum_L6 K V (nI t) lo hi post (k + 1) (smb K V lo hi i) (nI i) := by
    intro k
    induction k with
    | zero =>
      intro i e
      obtain rfl : i = 8 * 2 ^ t := by omega
      rw [wp_S_sum_L6]
      refine p_S_cells ht ?_
      exact ⟨fun _ => h, fun c => absurd (nI_le (Nat.le_refl _) (by omega)) c⟩
    | succ k ih =>
      intro i e
      have hh := ih (i + 1) (by omega)
      rw [smb_s] at hh
      rw [wp_S_sum_L6]
      refine p_S_cells ht ?_
      rw [nI_1, nI_clamp (by omega)]
      refine ⟨fun c => absurd c (nI_ge (by omega) (by omega)), fun _ => ?_⟩
      refine p_S_isHeld (by omega) (fun q => ?_) (fun q => ?_)
      · rw [if_pos q] at hh
        exact ⟨fun c => absurd c (by decide), fun _ => ⟨vp_in_nI (by omega) (by decide), hh⟩⟩
      · rw [if_neg q, Int64.add_zero] at hh
        exact ⟨fun _ => hh, fun c => absurd rfl c⟩
  unfold wp_S_sum
  exact ⟨8 * 2 ^ t + 1, key2 _ 0 (by omega)⟩
theorem p_M_sum {K V : Nat → Int64} {F : Nat → Int32} {J G : Nat → Int64} {c0 : Nat} {lo hi : Int64} {post : Int64 → Prop} (hR : Rm K F J) (hV : ∀ i, i < 512 → K i ≠ NOK → G i = V i) (hc : c0 ≤ 512) (h : post (smb K V lo hi c0)) : wp_M_sum (nI c0) F J G lo hi post := by
  have key2 : ∀ k i, i + k = c0 → wp_M_sum_L6 (nI c0) F J G lo hi post (k + 1) (smb K V lo hi i) (nI i) := by
    intro k
    induction k with
    | zero =>
      intro i e
      obtain rfl : i = c0 := by omega
      rw [wp_M_sum_L6]
      exact ⟨fun _ => h, fun c => absurd (nI_le (Nat.le_refl _) (by omega)) c⟩
    | succ k ih =>
      intro i e
      have hh := ih (i + 1) (by omega)
      rw [smb_s] at hh
      obtain ⟨r1, r2⟩ := hR i (by omega)
      rw [wp_M_sum_L6, nI_clamp (by omega), nI_1]
      refine ⟨fun c => absurd c (nI_ge (by omega) (by omega)), fun _ => ⟨vp_in_nI (by omega) (by decide), fun c => ?_, fun c => ?_⟩⟩
      · rw [if_neg (fun q => q.1 (r1.mp c))] at hh; exact hh
      · have c3 : K i ≠ NOK := fun q => c (r1.mpr q)
        rw [r2 c3, hV i (by omega) c3]
        refine ⟨fun c2 => ?_, fun c2 => ⟨fun c4 => ?_, fun c4 => ?_⟩⟩
        · rw [if_neg (fun q => l_nle.mpr c2 q.2.1)] at hh; exact hh
        · rw [if_neg (fun q => l_nle.mpr c4 q.2.2)] at hh; exact hh
        · rw [if_pos ⟨c3, l_nlt.mp c2, l_nlt.mp c4⟩] at hh; exact hh
  unfold wp_M_sum
  exact ⟨c0 + 1, key2 c0 0 (by omega)⟩
end
section
/-! A search ends where it should. -/
theorem gr_max {K : Nat → Int64} (hs : Srt K) {a : Nat} : ∀ {w : Nat}, a + w ≤ 512 → ∀ i, i < w → K (a + i) ≠ NOK → K (a + i) ≤ gr K a w
  | 0, _, i, hi, _ => absurd hi (by omega)
  | w + 1, hw, i, hi, hf => by
    rw [gr_s]
    by_cases c : K (a + w) = NOK
    · rw [if_pos c]
      have hne : i ≠ w := fun e => hf (by rw [e]; exact c)
      exact gr_max hs (by omega) i (by omega) hf
    · rw [if_neg c]
      rcases Nat.lt_or_ge i w with q | q
      · exact l_le_of_lt (hs (a + i) (a + w) (by omega) (by omega) hf c)
      · obtain rfl : i = w := by omega
        exact l_le_rf
/-- of the cells lo .. hi-1 and key: all before are less, all behind greater, and hi is the end or something here is no less -/
def Sk (K : Nat → Int64) (c0 : Nat) (key : Int64) (lo hi : Nat) : Prop :=
  (∀ j, j < lo → K j ≠ NOK → K j < key) ∧ (∀ j, hi ≤ j → j < 512 → K j ≠ NOK → key < K j) ∧ (hi = c0 ∨ ∃ m, lo ≤ m ∧ m < hi ∧ K m ≠ NOK ∧ key ≤ K m)
theorem sk_inv {K : Nat → Int64} {t : Nat} (key : Int64) (ht : t ≤ 6) (hs : Srt K) (hout : ∀ i, 8 * 2 ^ t ≤ i → i < 512 → K i = NOK) : ∀ d, d ≤ t →
    Sk K (8 * 2 ^ t) key (8 * ((nd K t key d - 2 ^ d) * 2 ^ (t - d))) (8 * ((nd K t key d - 2 ^ d) * 2 ^ (t - d)) + 8 * 2 ^ (t - d)) := by
  intro d
  induction d with
  | zero =>
    intro _
    have e : 8 * ((nd K t key 0 - 2 ^ 0) * 2 ^ (t - 0)) = 0 := by rw [nd]; simp
    rw [e]
    refine ⟨fun j hj => absurd hj (by omega), fun j h1 h2 h3 => absurd (hout j (by simpa using h1) h2) h3, Or.inl (by simp)⟩
  | succ d ih =>
    intro hd
    obtain ⟨hA, hB, hC⟩ := ih (by omega)
    obtain ⟨h1, h2⟩ := nd_in K t key d
    obtain ⟨e1, e2, e3, e4, e5⟩ := n_node ht (show d < t by omega) h1 h2
    have hp := n_p6 ht
    have er : t - (d + 1) = t - d - 1 := by omega
    have hr := n_pp (t - d - 1)
    rw [nd_s, er]
    generalize hx : nd K t key d = x at *
    have hbe : bear K t d x = gr K (8 * ((x - 2 ^ d) * 2 ^ (t - d))) (8 * 2 ^ (t - d - 1)) := rfl
    have elo : (x - 2 ^ d) * 2 ^ (t - d) = 2 * (x - 2 ^ d) * 2 ^ (t - d - 1) := by rw [e5, ← Nat.mul_assoc, Nat.mul_comm (x - 2 ^ d) 2]
    have eL : (2 * x - 2 ^ (d + 1)) * 2 ^ (t - d - 1) = (x - 2 ^ d) * 2 ^ (t - d) := by
      rw [elo, n_p1, show 2 * x - 2 * 2 ^ d = 2 * (x - 2 ^ d) by omega]
    have eR : (2 * x + 1 - 2 ^ (d + 1)) * 2 ^ (t - d - 1) = (x - 2 ^ d) * 2 ^ (t - d) + 2 ^ (t - d - 1) := by
      rw [elo, n_p1, show 2 * x + 1 - 2 * 2 ^ d = 2 * (x - 2 ^ d) + 1 by omega, Nat.add_mul, Nat.one_mul]
    generalize hlo : (x - 2 ^ d) * 2 ^ (t - d) = lo at *
    generalize hrr : 2 ^ (t - d - 1) = r at *
    by_cases c : bear K t d x = NOK ∨ bear K t d x < key
    · rw [if_pos c, eR]
      have hA2 : ∀ j, j < 8 * (lo + r) → K j ≠ NOK → K j < key := by
        intro j hj hf
        rcases Nat.lt_or_ge j (8 * lo) with q | q
        · exact hA j q hf
        · obtain ⟨i, rfl⟩ : ∃ i, j = 8 * lo + i := ⟨j - 8 * lo, by omega⟩
          rcases c with c | c
          · rw [hbe] at c
            exact absurd (gr_none c i (by omega)) hf
          · rw [hbe] at c
            exact l_lt_of_le_of_lt (gr_max hs (by omega) i (by omega) hf) c
      refine ⟨hA2, fun j q1 q2 q3 => hB j (by omega) q2 q3, ?_⟩
      rcases hC with hC | ⟨mm, m1, m2, m3, m4⟩
      · exact Or.inl (by omega)
      · refine Or.inr ⟨mm, ?_, by omega, m3, m4⟩
        rcases Nat.lt_or_ge mm (8 * (lo + r)) with q | q
        · exact absurd (hA2 mm q m3) (l_nlt.mpr m4)
        · exact q
    · rw [if_neg c, eL]
      have c1 : bear K t d x ≠ NOK := fun q => c (Or.inl q)
      have c2 : key ≤ bear K t d x := l_nlt.mp (fun q => c (Or.inr q))
      rw [hbe] at c1 c2
      obtain ⟨i, hi, he⟩ := gr_some c1
      refine ⟨hA, fun j q1 q2 q3 => ?_, Or.inr ⟨8 * lo + i, by omega, by omega, by rw [he]; exact c1, by rw [he]; exact c2⟩⟩
      refine l_lt_of_le_of_lt c2 ?_
      rw [← he]
      exact hs _ _ (by omega) q2 (by rw [he]; exact c1) q3
theorem sg_ok {K : Nat → Int64} {t : Nat} (key : Int64) (ht : t ≤ 6) (hs : Srt K) (hout : ∀ i, 8 * 2 ^ t ≤ i → i < 512 → K i = NOK) : Sk K (8 * 2 ^ t) key (8 * sg K t key) (8 * sg K t key + 8) := by
  have h := sk_inv key ht hs hout t (Nat.le_refl t)
  rw [Nat.sub_self, Nat.pow_zero, Nat.mul_one] at h
  exact h
def IsC (K : Nat → Int64) (c0 : Nat) (key : Int64) (i : Nat) : Prop := i < c0 ∧ K i ≠ NOK ∧ key ≤ K i ∧ ∀ j, j < i → K j ≠ NOK → K j < key
def NoC (K : Nat → Int64) (c0 : Nat) (key : Int64) : Prop := ∀ j, j < c0 → K j ≠ NOK → K j < key
theorem p_S_cellNotBelow {K : Nat → Int64} {t : Nat} {key : Int64} {post : Int32 → Prop} (ht : t ≤ 6) (hs : Srt K) (hout : ∀ i, 8 * 2 ^ t ≤ i → i < 512 → K i = NOK)
    (h1 : ∀ i, IsC K (8 * 2 ^ t) key i → post (nI i)) (h0 : NoC K (8 * 2 ^ t) key → post (-1)) : wp_S_cellNotBelow K (nI t) key post := by
  have hp := n_p6 ht
  have hl := sg_lt K t key
  obtain ⟨hA, hB, hC⟩ := sg_ok key ht hs hout
  generalize hg : sg K t key = x at *
  have key2 : ∀ k i, i + k = 8 → (∀ j, j < x * 8 + i → K j ≠ NOK → K j < key) → wp_S_cellNotBelow_L12 K (nI t) key (nI (x * 8)) post (k + 1) (nI (x * 8 + i)) := by
    intro k
    induction k with
    | zero =>
      intro i e hi
      obtain rfl : i = 8 := by omega
      rw [wp_S_cellNotBelow_L12, n_lit8, nI_add]
      refine ⟨fun _ => h0 ?_, fun c => absurd (nI_le (Nat.le_refl _) (by omega)) c⟩
      rcases hC with hC | ⟨mm, m1, m2, m3, m4⟩
      · intro j hj hf
        exact hi j (by omega) hf
      · exact absurd (hi mm (by omega) m3) (l_nlt.mpr m4)
    | succ k ih =>
      intro i e hi
      rw [wp_S_cellNotBelow_L12, n_lit8, nI_add, nI_clamp (by omega), nI_1]
      refine ⟨fun c => absurd c (nI_ge (by omega) (by omega)), fun _ => ⟨vp_in_nI (by omega) (by decide), fun c => ?_, fun c => ⟨fun c2 => ?_, fun c2 => ?_⟩⟩⟩
      · refine ih (i + 1) (by omega) (fun j hj hf => ?_)
        rcases Nat.lt_or_ge j (x * 8 + i) with q | q
        · exact hi j q hf
        · obtain rfl : j = x * 8 + i := by omega
          exact absurd c hf
      · refine ih (i + 1) (by omega) (fun j hj hf => ?_)
        rcases Nat.lt_or_ge j (x * 8 + i) with q | q
        · exact hi j q hf
        · obtain rfl : j = x * 8 + i := by omega
          exact c2
      · exact h1 _ ⟨by omega, c, l_nlt.mp c2, hi⟩
  unfold wp_S_cellNotBelow
  refine p_S_seek ht ?_
  rw [hg, n_lit8, pk_mul]
  exact ⟨9, key2 8 0 rfl (fun j hj hf => hA j (by omega) hf)⟩
theorem p_S_cellOf {K : Nat → Int64} {t : Nat} {key : Int64} {post : Int32 → Prop} (ht : t ≤ 6) (hs : Srt K) (hout : ∀ i, 8 * 2 ^ t ≤ i → i < 512 → K i = NOK)
    (h1 : ∀ i, i < 8 * 2 ^ t → K i ≠ NOK → K i = key → post (nI i)) (h0 : (∀ i, i < 8 * 2 ^ t → K i ≠ NOK → K i ≠ key) → post (-1)) : wp_S_cellOf K (nI t) key post := by
  have hp := n_p6 ht
  unfold wp_S_cellOf
  refine p_S_cellNotBelow ht hs hout (fun i hi => ?_) (fun hn => ?_)
  · obtain ⟨i1, i2, i3, i4⟩ := hi
    rw [nI_clamp (by omega)]
    refine ⟨fun c => absurd c (n_m1 (by omega)), fun _ => ⟨vp_in_nI (by omega) (by decide), fun c => h1 i i1 i2 c, fun c => h0 (fun j j1 j2 => ?_)⟩⟩
    rcases Nat.lt_trichotomy j i with q | q | q
    · exact l_ne_of_lt (i4 j q j2)
    · rw [q]; exact c
    · exact (l_ne_of_lt (l_lt_of_le_of_lt i3 (hs i j q (by omega) i2 j2))).symm
  · exact ⟨fun _ => h0 (fun i i1 i2 => l_ne_of_lt (hn i i1 i2)), fun c => absurd rfl c⟩
theorem p_S_has {K : Nat → Int64} {t : Nat} {key : Int64} {post : Int32 → Prop} (ht : t ≤ 6) (hs : Srt K) (hout : ∀ i, 8 * 2 ^ t ≤ i → i < 512 → K i = NOK)
    (h1 : (∃ i, i < 8 * 2 ^ t ∧ K i ≠ NOK ∧ K i = key) → post 1) (h0 : (∀ i, i < 8 * 2 ^ t → K i ≠ NOK → K i ≠ key) → post 0) : wp_S_has K (nI t) key post := by
  have hp := n_p6 ht
  unfold wp_S_has
  refine p_S_cellOf ht hs hout (fun i a b c => ?_) (fun h => ?_)
  · exact ⟨fun q => absurd q (n_m1 (by omega)), fun _ => h1 ⟨i, a, b, c⟩⟩
  · exact ⟨fun _ => h0 h, fun q => absurd rfl q⟩
theorem p_S_get {K V : Nat → Int64} {t : Nat} {key : Int64} {post : Int64 → Prop} (ht : t ≤ 6) (hs : Srt K) (hout : ∀ i, 8 * 2 ^ t ≤ i → i < 512 → K i = NOK)
    (h1 : ∀ i, i < 8 * 2 ^ t → K i ≠ NOK → K i = key → post (V i)) (h0 : (∀ i, i < 8 * 2 ^ t → K i ≠ NOK → K i ≠ key) → post 0) : wp_S_get K V (nI t) key post := by
  have hp := n_p6 ht
  unfold wp_S_get
  refine p_S_cellOf ht hs hout (fun i a b c => ?_) (fun h => ?_)
  · rw [nI_clamp (by omega)]
    exact ⟨fun q => absurd q (n_m1 (by omega)), fun _ => ⟨vp_in_nI (by omega) (by decide), h1 i a b c⟩⟩
  · exact ⟨fun _ => h0 h, fun q => absurd rfl q⟩
theorem p_S_ceiling {K : Nat → Int64} {t : Nat} {key : Int64} {post : Int64 → Prop} (ht : t ≤ 6) (hs : Srt K) (hout : ∀ i, 8 * 2 ^ t ≤ i → i < 512 → K i = NOK)
    (h1 : ∀ i, IsC K (8 * 2 ^ t) key i → post (K i)) (h0 : NoC K (8 * 2 ^ t) key → post NOK) : wp_S_ceiling K (nI t) key post := by
  have hp := n_p6 ht
  unfold wp_S_ceiling
  refine p_S_cellNotBelow ht hs hout (fun i hi => ?_) (fun hn => ?_)
  · have := hi.1
    rw [nI_clamp (by omega)]
    exact ⟨fun q => absurd q (n_m1 (by omega)), fun _ => ⟨vp_in_nI (by omega) (by decide), h1 i hi⟩⟩
  · exact ⟨fun _ => h0 hn, fun q => absurd rfl q⟩
theorem p_M_cellOf {K : Nat → Int64} {F : Nat → Int32} {J : Nat → Int64} {c0 : Nat} {key : Int64} {post : Int32 → Prop} (hR : Rm K F J) (hc : c0 ≤ 512)
    (h1 : ∀ i, i < c0 → K i ≠ NOK → K i = key → post (nI i)) (h0 : (∀ i, i < c0 → K i ≠ NOK → K i ≠ key) → post (-1)) : wp_M_cellOf (nI c0) F J key post := by
  have key2 : ∀ k i (x : Int32), i + k = c0 → ((∃ j, j < i ∧ K j ≠ NOK ∧ K j = key ∧ x = nI j) ∨ (x = -1 ∧ ∀ j, j < i → K j ≠ NOK → K j ≠ key)) → wp_M_cellOf_L5 (nI c0) F J key post (k + 1) x (nI i) := by
    intro k
    induction k with
    | zero =>
      intro i x e hx
      obtain rfl : i = c0 := by omega
      rw [wp_M_cellOf_L5]
      refine ⟨fun _ => ?_, fun c => absurd (nI_le (Nat.le_refl _) (by omega)) c⟩
      rcases hx with ⟨j, a, b, c, rfl⟩ | ⟨rfl, hn⟩
      · exact h1 j a b c
      · exact h0 hn
    | succ k ih =>
      intro i x e hx
      obtain ⟨r1, r2⟩ := hR i (by omega)
      rw [wp_M_cellOf_L5, nI_clamp (by omega), nI_1]
      refine ⟨fun c => absurd c (nI_ge (by omega) (by omega)), fun _ => ⟨vp_in_nI (by omega) (by decide), fun c => ?_, fun c => ?_⟩⟩
      · refine ih (i + 1) x (by omega) ?_
        rcases hx with ⟨j, a, b, d, f⟩ | ⟨f, hn⟩
        · exact Or.inl ⟨j, by omega, b, d, f⟩
        · refine Or.inr ⟨f, fun j hj hf => ?_⟩
          rcases Nat.lt_or_ge j i with q | q
          · exact hn j q hf
          · obtain rfl : j = i := by omega
            exact absurd (r1.mp c) hf
      · have c3 : K i ≠ NOK := fun q => c (r1.mpr q)
        rw [r2 c3]
        refine ⟨fun c2 => ?_, fun c2 => ?_⟩
        · exact ih (i + 1) (nI i) (by omega) (Or.inl ⟨i, by omega, c3, c2, rfl⟩)
        · refine ih (i + 1) x (by omega) ?_
          rcases hx with ⟨j, a, b, d, f⟩ | ⟨f, hn⟩
          · exact Or.inl ⟨j, by omega, b, d, f⟩
          · refine Or.inr ⟨f, fun j hj hf => ?_⟩
            rcases Nat.lt_or_ge j i with q | q
            · exact hn j q hf
            · obtain rfl : j = i := by omega
              exact c2
  unfold wp_M_cellOf
  exact ⟨c0 + 1, key2 c0 0 (-1) (by omega) (Or.inr ⟨rfl, fun j hj => absurd hj (by omega)⟩)⟩
theorem p_M_has {K : Nat → Int64} {F : Nat → Int32} {J : Nat → Int64} {c0 : Nat} {key : Int64} {post : Int32 → Prop} (hR : Rm K F J) (hc : c0 ≤ 512)
    (h1 : (∃ i, i < c0 ∧ K i ≠ NOK ∧ K i = key) → post 1) (h0 : (∀ i, i < c0 → K i ≠ NOK → K i ≠ key) → post 0) : wp_M_has (nI c0) F J key post := by
  unfold wp_M_has
  refine p_M_cellOf hR hc (fun i a b c => ?_) (fun h => ?_)
  · exact ⟨fun q => absurd q (nI_pos (by omega)), fun _ => h1 ⟨i, a, b, c⟩⟩
  · exact ⟨fun _ => h0 h, fun q => absurd (by decide) q⟩
theorem p_M_get {K V : Nat → Int64} {F : Nat → Int32} {J G : Nat → Int64} {c0 : Nat} {key : Int64} {post : Int64 → Prop} (hR : Rm K F J) (hV : ∀ i, i < 512 → K i ≠ NOK → G i = V i) (hc : c0 ≤ 512)
    (h1 : ∀ i, i < c0 → K i ≠ NOK → K i = key → post (V i)) (h0 : (∀ i, i < c0 → K i ≠ NOK → K i ≠ key) → post 0) : wp_M_get (nI c0) F J G key post := by
  unfold wp_M_get
  refine p_M_cellOf hR hc (fun i a b c => ?_) (fun h => ?_)
  · rw [nI_clamp (by omega), hV i (by omega) b]
    exact ⟨fun _ => ⟨vp_in_nI (by omega) (by decide), h1 i a b c⟩, fun q => absurd (nI_pos' (by omega)) q⟩
  · exact ⟨fun q => absurd q (by decide), fun _ => h0 h⟩
theorem p_M_ceiling {K : Nat → Int64} {F : Nat → Int32} {J : Nat → Int64} {c0 : Nat} {key : Int64} {post : Int64 → Prop} (hR : Rm K F J) (hc : c0 ≤ 512)
    (h1 : ∀ i, IsC K c0 key i → post (K i)) (h0 : NoC K c0 key → post NOK) : wp_M_ceiling (nI c0) F J key post := by
  have key2 : ∀ i (x : Int64), i ≤ c0 → ((∃ m, i ≤ m ∧ m < c0 ∧ K m ≠ NOK ∧ key ≤ K m ∧ x = K m ∧ ∀ j, i ≤ j → j < m → K j ≠ NOK → K j < key) ∨ (x = NOK ∧ ∀ j, i ≤ j → j < c0 → K j ≠ NOK → K j < key)) → wp_M_ceiling_L12 (nI c0) F J key post (i + 1) x (nI i + (-1)) := by
    intro i
    induction i with
    | zero =>
      intro x _ hx
      rw [wp_M_ceiling_L12]
      refine ⟨fun _ => ?_, fun c => absurd (by decide) c⟩
      rcases hx with ⟨m, m1, m2, m3, m4, rfl, m6⟩ | ⟨rfl, hn⟩
      · exact h1 m ⟨m2, m3, m4, fun j hj hf => m6 j (by omega) hj hf⟩
      · exact h0 (fun j hj hf => hn j (by omega) hj hf)
    | succ i ih =>
      intro x hi hx
      obtain ⟨r1, r2⟩ := hR i (by omega)
      have keep : (K i ≠ NOK → K i < key) → wp_M_ceiling_L12 (nI c0) F J key post (i + 1) x (nI i + (-1)) := by
        intro hk
        refine ih x (by omega) ?_
        rcases hx with ⟨m, m1, m2, m3, m4, m5, m6⟩ | ⟨m5, hn⟩
        · refine Or.inl ⟨m, by omega, m2, m3, m4, m5, fun j h2 h3 h4 => ?_⟩
          rcases Nat.lt_or_ge i j with q | q
          · exact m6 j (by omega) h3 h4
          · obtain rfl : j = i := by omega
            exact hk h4
        · refine Or.inr ⟨m5, fun j h2 h3 h4 => ?_⟩
          rcases Nat.lt_or_ge i j with q | q
          · exact hn j (by omega) h3 h4
          · obtain rfl : j = i := by omega
            exact hk h4
      rw [wp_M_ceiling_L12, pk_m1, nI_clamp (by omega)]
      refine ⟨fun c => absurd c (nI_pos (by omega)), fun _ => ⟨vp_in_nI (by omega) (by decide), fun c => ?_, fun c => ?_⟩⟩
      · exact keep (fun q => absurd (r1.mp c) q)
      · have c3 : K i ≠ NOK := fun q => c (r1.mpr q)
        rw [r2 c3]
        refine ⟨fun c2 => keep (fun _ => c2), fun c2 => ?_⟩
        exact ih (K i) (by omega) (Or.inl ⟨i, by omega, by omega, c3, l_nlt.mp c2, rfl, fun j h2 h3 => absurd h3 (by omega)⟩)
  unfold wp_M_ceiling
  refine ⟨c0 + 1, ?_⟩
  rw [n_sub1]
  exact key2 c0 NOK (Nat.le_refl _) (Or.inr ⟨rfl, fun j h2 h3 => absurd h3 (by omega)⟩)
/-! select, size, cellKey -/
theorem cnt0_s (K : Nat → Int64) (w : Nat) : cnt K 0 (w + 1) = cnt K 0 w + (if K w = NOK then 0 else 1) := by rw [cnt_s, Nat.zero_add]
def sel (K : Nat → Int64) (k : Int32) : Nat → Int64
  | 0 => NOK
  | w + 1 => if K w ≠ NOK ∧ nI (cnt K 0 w) = k then K w else sel K k w
theorem sel_s (K : Nat → Int64) (k : Int32) (w : Nat) : sel K k (w + 1) = if K w ≠ NOK ∧ nI (cnt K 0 w) = k then K w else sel K k w := rfl
theorem sel_hit {K : Nat → Int64} {k : Int32} {i : Nat} (h1 : K i ≠ NOK) (h2 : nI (cnt K 0 i) = k) : ∀ w, i + 1 + w ≤ 512 → sel K k (i + 1 + w) = K i
  | 0, _ => by rw [Nat.add_zero, sel_s, if_pos ⟨h1, h2⟩]
  | w + 1, hw => by
    rw [show i + 1 + (w + 1) = (i + 1 + w) + 1 from rfl, sel_s, if_neg]
    · exact sel_hit h1 h2 w (by omega)
    · intro q
      have a1 := cnt_mono K 0 (i + 1) w
      rw [cnt0_s, if_neg h1] at a1
      have a2 := cnt_le K 0 (i + 1 + w)
      have e : nI (cnt K 0 (i + 1 + w)) = nI (cnt K 0 i) := by rw [q.2, h2]
      rw [nI_eq (by omega) (by omega)] at e
      omega
theorem p_S_select {K : Nat → Int64} {t : Nat} {k : Int32} {post : Int64 → Prop} (ht : t ≤ 6) (h : post (sel K k (8 * 2 ^ t))) : wp_S_select K (nI t) k post := by
  have hp := n_p6 ht
  have key2 : ∀ r i, i + r = 8 * 2 ^ t → sel K k i = NOK → wp_S_select_L4 K (nI t) k post (r + 1) (nI (cnt K 0 i)) (nI i) := by
    intro r
    induction r with
    | zero =>
      intro i e hn
      obtain rfl : i = 8 * 2 ^ t := by omega
      rw [wp_S_select_L4]
      refine p_S_cells ht ?_
      refine ⟨fun _ => ?_, fun c => absurd (nI_le (Nat.le_refl _) (by omega)) c⟩
      rw [hn] at h
      exact h
    | succ r ih =>
      intro i e hn
      have hh := ih (i + 1) (by omega)
      rw [sel_s, cnt0_s] at hh
      rw [wp_S_select_L4]
      refine p_S_cells ht ?_
      rw [nI_clamp (by omega), nI_1, nI_1]
      refine ⟨fun c => absurd c (nI_ge (by omega) (by omega)), fun _ => ⟨vp_in_nI (by omega) (by decide), fun c => ?_, fun c => ⟨fun c2 => ?_, fun c2 => ?_⟩⟩⟩
      · rw [if_neg (fun q => q.1 c), if_pos c] at hh; exact hh hn
      · have e2 := sel_hit c c2 r (by omega)
        rw [show i + 1 + r = 8 * 2 ^ t by omega] at e2
        rw [e2] at h
        exact h
      · rw [if_neg (fun q => c2 q.2), if_neg c] at hh; exact hh hn
  unfold wp_S_select
  exact ⟨8 * 2 ^ t + 1, key2 _ 0 (by omega) rfl⟩
theorem p_M_select {K : Nat → Int64} {F : Nat → Int32} {J : Nat → Int64} {c0 : Nat} {k : Int32} {post : Int64 → Prop} (hR : Rm K F J) (hc : c0 ≤ 512) (h : post (sel K k c0)) : wp_M_select (nI c0) F J k post := by
  have key2 : ∀ r i, i + r = c0 → wp_M_select_L9 (nI c0) F J k post (r + 1) (nI (cnt K 0 i)) (sel K k i) (nI i) := by
    intro r
    induction r with
    | zero =>
      intro i e
      obtain rfl : i = c0 := by omega
      rw [wp_M_select_L9]
      exact ⟨fun _ => h, fun c => absurd (nI_le (Nat.le_refl _) (by omega)) c⟩
    | succ r ih =>
      intro i e
      have hh := ih (i + 1) (by omega)
      rw [sel_s, cnt0_s] at hh
      obtain ⟨r1, r2⟩ := hR i (by omega)
      rw [wp_M_select_L9, nI_clamp (by omega), nI_1, nI_1, n_lit0, nI_add]
      refine ⟨fun c => absurd c (nI_ge (by omega) (by omega)), fun _ => ⟨vp_in_nI (by omega) (by decide), fun c => ?_, fun c => ?_⟩⟩
      · have c3 := r1.mp c
        rw [if_pos c3, if_neg (fun q => q.1 c3)] at hh; exact hh
      · have c3 : K i ≠ NOK := fun q => c (r1.mpr q)
        rw [r2 c3]
        refine ⟨fun c2 => ?_, fun c2 => ?_⟩
        · rw [if_neg c3, if_pos ⟨c3, c2⟩] at hh; exact hh
        · rw [if_neg c3, if_neg (fun q => c2 q.2)] at hh; exact hh
  unfold wp_M_select
  exact ⟨c0 + 1, key2 c0 0 (by omega)⟩
theorem p_S_size {K : Nat → Int64} {t : Nat} {post : Int32 → Prop} (ht : t ≤ 6) (h : post (nI (cnt K 0 (8 * 2 ^ t)))) : wp_S_size K (nI t) post := by
  have hp := n_p6 ht
  unfold wp_S_size
  refine p_S_cells ht ?_
  rw [n_lit0]
  exact p_S_keysAmong (by omega) h
theorem p_M_size {K : Nat → Int64} {F : Nat → Int32} {J : Nat → Int64} {c0 : Nat} {post : Int32 → Prop} (hR : Rm K F J) (hc : c0 ≤ 512) (h : post (nI (cnt K 0 c0))) : wp_M_size (nI c0) F post := by
  unfold wp_M_size
  rw [n_lit0]
  exact p_M_held hR (by omega) h
/-- the key of a cell by its number, none outside -/
theorem p_cellKey {K : Nat → Int64} {F : Nat → Int32} {J : Nat → Int64} {t : Nat} {a : Int32} (hR : Rm K F J) (ht : t ≤ 6) : ∃ r : Int64, (∀ post : Int64 → Prop, post r → wp_S_cellKey K (nI t) a post) ∧ (∀ post : Int64 → Prop, post r → wp_M_cellKey (nI (8 * 2 ^ t)) F J a post) := by
  have hp := n_p6 ht
  by_cases c : a < 0
  · refine ⟨NOK, fun post h => ?_, fun post h => ?_⟩
    · unfold wp_S_cellKey; exact ⟨fun _ => h, fun q => absurd c q⟩
    · unfold wp_M_cellKey; exact ⟨fun _ => h, fun q => absurd c q⟩
  · obtain ⟨j, hj, rfl⟩ := nI_of c
    rcases Nat.lt_or_ge j (8 * 2 ^ t) with q | q
    · obtain ⟨r1, r2⟩ := hR j (by omega)
      refine ⟨K j, fun post h => ?_, fun post h => ?_⟩
      · unfold wp_S_cellKey
        refine ⟨fun q => absurd q c, fun _ => p_S_cells ht ?_⟩
        rw [nI_clamp (by omega)]
        exact ⟨fun _ => ⟨vp_in_nI (by omega) (by decide), h⟩, fun z => absurd (nI_lt q (by omega)) z⟩
      · unfold wp_M_cellKey
        rw [nI_clamp (by omega)]
        refine ⟨fun q => absurd q c, fun _ => ⟨fun z => absurd z (nI_ge q (by omega)), fun _ => ⟨vp_in_nI (by omega) (by decide), fun z => ?_, fun z => ?_⟩⟩⟩
        · rw [r1.mp z] at h; exact h
        · rw [r2 (fun y => z (r1.mpr y))]; exact h
    · refine ⟨NOK, fun post h => ?_, fun post h => ?_⟩
      · unfold wp_S_cellKey
        refine ⟨fun q => absurd q c, fun _ => p_S_cells ht ?_⟩
        exact ⟨fun z => absurd z (nI_nlt q (by omega)), fun _ => h⟩
      · unfold wp_M_cellKey
        exact ⟨fun q => absurd q c, fun _ => ⟨fun _ => h, fun z => absurd (nI_le q (by omega)) z⟩⟩
end
section
/-! Places of nodes. -/
def pit : Nat → Nat → Nat → Nat
  | 0, _, _ => 0
  | n + 1, x, h => if h ≤ 1 then 0 else if Nat.log2 x < (h + 1) / 2 then pit n x ((h + 1) / 2) else
      ((2 ^ ((h + 1) / 2) - 1) + (x / 2 ^ (Nat.log2 x - (h + 1) / 2) - 2 ^ ((h + 1) / 2)) * (2 ^ (h - (h + 1) / 2) - 1)) + pit n (2 ^ (Nat.log2 x - (h + 1) / 2) + x % 2 ^ (Nat.log2 x - (h + 1) / 2)) (h - (h + 1) / 2)
theorem pit_s (n x h : Nat) : pit (n + 1) x h = if h ≤ 1 then 0 else if Nat.log2 x < (h + 1) / 2 then pit n x ((h + 1) / 2) else
      ((2 ^ ((h + 1) / 2) - 1) + (x / 2 ^ (Nat.log2 x - (h + 1) / 2) - 2 ^ ((h + 1) / 2)) * (2 ^ (h - (h + 1) / 2) - 1)) + pit n (2 ^ (Nat.log2 x - (h + 1) / 2) + x % 2 ^ (Nat.log2 x - (h + 1) / 2)) (h - (h + 1) / 2) := rfl
theorem lg_in {x : Nat} (h : 1 ≤ x) : 2 ^ Nat.log2 x ≤ x ∧ x < 2 ^ (Nat.log2 x + 1) := ⟨Nat.log2_self_le (by omega), Nat.lt_log2_self⟩
theorem lg_le {x n : Nat} (h : 1 ≤ x) (h2 : x < 2 ^ (n + 1)) : Nat.log2 x ≤ n := by
  rcases Nat.lt_or_ge n (Nat.log2 x) with q | q
  · have a := (lg_in h).1
    have b : 2 ^ (n + 1) ≤ 2 ^ Nat.log2 x := Nat.pow_le_pow_right (by decide) (by omega)
    omega
  · exact q
theorem lg_eq {x d : Nat} (h : 2 ^ d ≤ x) (h2 : x < 2 ^ (d + 1)) : Nat.log2 x = d := by
  have hp := n_pp d
  have a := lg_le (by omega) h2
  rcases Nat.lt_or_ge (Nat.log2 x) d with q | q
  · have b := (lg_in (show 1 ≤ x by omega)).2
    have c : 2 ^ (Nat.log2 x + 1) ≤ 2 ^ d := Nat.pow_le_pow_right (by decide) (by omega)
    omega
  · omega
theorem p_S_nodesOfTree {h : Nat} {post : Int32 → Prop} (hh : h ≤ 6) (hp : post (nI (2 ^ h - 1))) : wp_S_nodesOfTree (nI h) post := by
  have h2 := n_p6 hh
  have h3 := n_pp h
  unfold wp_S_nodesOfTree
  rw [n_lit1, n_shl (by omega) (by omega), Nat.one_mul, pk_sub h3]
  exact hp
theorem n_neg {x : Int32} (h : x < 0) : ¬ 0 ≤ x := by
  rw [Int32.lt_iff_toInt_lt] at h; rw [Int32.le_iff_toInt_le]; omega
theorem p_S_pit : ∀ (n x h : Nat) (post : Int32 → Prop), h ≤ n + 1 → h ≤ 6 → 1 ≤ x → x < 128 → post (nI (pit (n + 1) x h)) → wp_S_placeInTree (n + 1) (nI x) (nI h) post := by
  intro n
  induction n with
  | zero =>
    intro x h post h1 h2 h3 h4 hp
    rw [pit_s, if_pos (by omega)] at hp
    rw [wp_S_placeInTree]
    exact ⟨fun c => absurd c (nI_nlt (b := h) (a := 1) (by omega) (by omega)), fun _ => hp⟩
  | succ n ih =>
    intro x h post h1 h2 h3 h4 hp
    rw [pit_s] at hp
    rw [wp_S_placeInTree]
    by_cases c : h ≤ 1
    · rw [if_pos c] at hp
      exact ⟨fun q => absurd q (nI_nlt (b := h) (a := 1) (by omega) (by omega)), fun _ => hp⟩
    · rw [if_neg c] at hp
      refine ⟨fun _ => ?_, fun q => absurd (nI_lt (a := 1) (b := h) (by omega) (by omega)) q⟩
      have hl := lg_in h3
      have hl6 : Nat.log2 x ≤ 6 := lg_le h3 (by show x < 128; exact h4)
      refine p_S_depthOf hl.1 hl.2 (by omega) ?_
      generalize hd : Nat.log2 x = d at *
      have etop : (nI h + 1) / 2 = nI ((h + 1) / 2) := by rw [nI_1, n_lit2, pk_div (by omega) (by decide) (by decide)]
      rw [etop]
      generalize htop : (h + 1) / 2 = top at *
      by_cases c2 : d < top
      · rw [if_pos c2] at hp
        refine ⟨fun q => absurd q (n_neg (pk_sneg (by omega) c2)), fun _ => ?_⟩
        exact ih x top _ (by omega) (by omega) h3 h4 hp
      · rw [if_neg c2] at hp
        refine ⟨fun _ => ?_, fun q => absurd (by rw [pk_sub (by omega)]; exact nI_pos' (by omega)) q⟩
        have hb6 := n_p6 (show d - top ≤ 6 by omega)
        have hbp := n_pp (d - top)
        have ht6 := n_p6 (show top ≤ 6 by omega)
        have e1 : (1 : Int32) <<< ((nI d - nI top) &&& 31) = nI (2 ^ (d - top)) := by rw [pk_sub (by omega), n_lit1, n_shl (by omega) (by omega), Nat.one_mul]
        have e2 : (1 : Int32) <<< (nI top &&& 31) = nI (2 ^ top) := by rw [n_lit1, n_shl (by omega) (by omega), Nat.one_mul]
        have e3 : nI x >>> ((nI d - nI top) &&& 31) = nI (x / 2 ^ (d - top)) := by rw [pk_sub (by omega), n_shr (by omega) (by omega)]
        have e4 : 2 ^ top ≤ x / 2 ^ (d - top) := by
          rw [Nat.le_div_iff_mul_le hbp, ← Nat.pow_add, show top + (d - top) = d by omega]
          exact hl.1
        have e5 : x % 2 ^ (d - top) < 2 ^ (d - top) := Nat.mod_lt _ hbp
        rw [e1, e2, e3]
        refine ⟨nI_ne0 hbp (by omega), ?_⟩
        refine p_S_nodesOfTree (by omega) ?_
        rw [pk_sub (show top ≤ h by omega), pk_rem (by omega) hbp (by omega), nI_add, pk_sub e4]
        refine p_S_nodesOfTree (by omega) ?_
        refine ih _ _ _ (by omega) (by omega) (by omega) (by omega) ?_
        rw [pk_mul, nI_add, nI_add]
        exact hp
def plo : Nat → Nat → Nat → Nat → Nat → Nat
  | 0, _, _, _, base => base
  | n + 1, x, high, depth, base => if high ≤ 1 then base else if depth < (high + 1) / 2 then plo n x ((high + 1) / 2) depth base else
      plo n x (high - (high + 1) / 2) (depth - (high + 1) / 2) (base + ((2 ^ ((high + 1) / 2) - 1) + (x / 2 ^ (depth - (high + 1) / 2) - x / 2 ^ depth * 2 ^ ((high + 1) / 2)) * (2 ^ (high - (high + 1) / 2) - 1)))
theorem plo_s (n x high depth base : Nat) : plo (n + 1) x high depth base = if high ≤ 1 then base else if depth < (high + 1) / 2 then plo n x ((high + 1) / 2) depth base else
      plo n x (high - (high + 1) / 2) (depth - (high + 1) / 2) (base + ((2 ^ ((high + 1) / 2) - 1) + (x / 2 ^ (depth - (high + 1) / 2) - x / 2 ^ depth * 2 ^ ((high + 1) / 2)) * (2 ^ (high - (high + 1) / 2) - 1))) := rfl
theorem p_M_plo {c0 : Int32} {x : Nat} {post : Int32 → Prop} (hx : x < 128) : ∀ (n high depth base : Nat), high ≤ n + 1 → high ≤ 6 → depth ≤ 6 → post (nI (plo (n + 1) x high depth base)) → wp_M_placeOf_L16 c0 (nI x) post (n + 1) (nI (x / 2 ^ depth)) (nI high) (nI depth) (nI base) := by
  intro n
  induction n with
  | zero =>
    intro high depth base h1 h2 h3 hp
    rw [plo_s, if_pos (by omega)] at hp
    rw [wp_M_placeOf_L16]
    exact ⟨fun _ => hp, fun c => absurd (nI_le (b := 1) (a := high) (by omega) (by omega)) c⟩
  | succ n ih =>
    intro high depth base h1 h2 h3 hp
    rw [plo_s] at hp
    rw [wp_M_placeOf_L16]
    by_cases c : high ≤ 1
    · rw [if_pos c] at hp
      exact ⟨fun _ => hp, fun q => absurd (nI_le (b := 1) (a := high) (by omega) (by omega)) q⟩
    · rw [if_neg c] at hp
      refine ⟨fun q => absurd q (nI_ge (b := high) (a := 1) (by omega) (by omega)), fun _ => ?_⟩
      have etop : (nI high + 1) / 2 = nI ((high + 1) / 2) := by rw [nI_1, n_lit2, pk_div (by omega) (by decide) (by decide)]
      rw [etop]
      generalize htop : (high + 1) / 2 = top at *
      by_cases c2 : depth < top
      · rw [if_pos c2] at hp
        refine ⟨fun _ => ?_, fun q => absurd (nI_lt c2 (by omega)) q⟩
        exact ih top depth base (by omega) (by omega) h3 hp
      · rw [if_neg c2] at hp
        refine ⟨fun q => absurd q (nI_nlt (by omega) (by omega)), fun _ => ?_⟩
        have ht6 := n_p6 (show top ≤ 6 by omega)
        have htp := n_pp top
        have hb6 := n_p6 (show high - top ≤ 6 by omega)
        have hbp := n_pp (high - top)
        have e0 : x / 2 ^ depth * 2 ^ top ≤ x / 2 ^ (depth - top) := by
          have : x / 2 ^ depth = x / 2 ^ (depth - top) / 2 ^ top := by rw [Nat.div_div_eq_div_mul, ← Nat.pow_add, show depth - top + top = depth by omega]
          rw [this]
          exact Nat.div_mul_le_self _ _
        have e00 : x / 2 ^ (depth - top) ≤ x := Nat.div_le_self _ _
        have e1 : (1 : Int32) <<< (nI top &&& 31) = nI (2 ^ top) := by rw [n_lit1, n_shl (by omega) (by omega), Nat.one_mul]
        have e2 : nI x >>> ((nI depth - nI top) &&& 31) = nI (x / 2 ^ (depth - top)) := by rw [pk_sub (by omega), n_shr (by omega) (by omega)]
        have e3 : nI (x / 2 ^ depth) <<< (nI top &&& 31) = nI (x / 2 ^ depth * 2 ^ top) := n_shl (by omega) (by omega)
        have e4 : (1 : Int32) <<< ((nI high - nI top) &&& 31) = nI (2 ^ (high - top)) := by rw [pk_sub (by omega), n_lit1, n_shl (by omega) (by omega), Nat.one_mul]
        rw [e1, e2, e3, e4, pk_sub (show top ≤ high by omega), pk_sub (show top ≤ depth by omega), n_lit1, pk_sub htp, pk_sub hbp, pk_sub e0, pk_mul, nI_add, nI_add]
        exact ih _ _ _ (by omega) (by omega) (by omega) hp
theorem pit_plo : ∀ t, t < 7 → ∀ x, x < 64 → 1 ≤ x → x < 2 ^ t → pit 8 x t = plo 8 x t (Nat.log2 x) 0 ∧ pit 8 x t < 64 := by decide +kernel
theorem p_M_placeOf {t x : Nat} {post : Int32 → Prop} (ht : t ≤ 6) (h1 : 1 ≤ x) (h2 : x < 2 ^ t) (h : post (nI (pit 8 x t))) : wp_M_placeOf (nI (8 * 2 ^ t)) (nI x) post := by
  have hp := n_p6 ht
  have hl := lg_in h1
  have hl5 : Nat.log2 x ≤ 5 := lg_le h1 (show x < 64 by omega)
  unfold wp_M_placeOf
  refine p_M_levels ht ?_
  refine p_M_levelOf hl.1 hl.2 (by omega) ?_
  refine ⟨8, ?_⟩
  rw [(pit_plo t (by omega) x (by omega) h1 h2).1] at h
  have e : nI (x / 2 ^ Nat.log2 x) = 1 := by
    have : x / 2 ^ Nat.log2 x = 1 := by
      rw [Nat.div_eq_iff (n_pp _)]
      have := hl.2
      rw [n_p1] at this
      omega
    rw [this]; rfl
  have := p_M_plo (c0 := nI (8 * 2 ^ t)) (post := post) (x := x) (by omega) 7 t (Nat.log2 x) 0 (by omega) ht (by omega) h
  rw [e] at this
  exact this
theorem p_S_pit8 {t x : Nat} {post : Int32 → Prop} (ht : t ≤ 6) (h1 : 1 ≤ x) (h2 : x < 2 ^ t) (h : post (nI (pit 8 x t))) : wp_S_placeInTree 8 (nI x) (nI t) post := by
  have hp := n_p6 ht
  exact p_S_pit 7 x t post (by omega) ht h1 (by omega) h
theorem pit_lt : ∀ t, t < 7 → ∀ x, x < 64 → 1 ≤ x → x < 2 ^ t → pit 8 x t < 2 ^ t := by decide +kernel
theorem pit_inj0 : ∀ t, t < 7 → ∀ x, x < 64 → ∀ y, y < 64 → (1 ≤ x ∧ x < 2 ^ t ∧ 1 ≤ y ∧ y < 2 ^ t ∧ pit 8 x t = pit 8 y t) → x = y := by decide +kernel
theorem pit_inj (t : Nat) (ht : t < 7) (x : Nat) (hx : x < 64) (x1 : 1 ≤ x) (x2 : x < 2 ^ t) (y : Nat) (hy : y < 64) (y1 : 1 ≤ y) (y2 : y < 2 ^ t) (e : pit 8 x t = pit 8 y t) : x = y := pit_inj0 t ht x hx y hy ⟨x1, x2, y1, y2, e⟩
theorem p_place {t : Nat} {a : Int32} (ht : t ≤ 6) : ∃ r : Int32, (∀ post : Int32 → Prop, post r → wp_S_place (nI t) a post) ∧ (∀ post : Int32 → Prop, post r → wp_M_place (nI (8 * 2 ^ t)) a post) := by
  have hp := n_p6 ht
  have out : (a < 1 ∨ nI (2 ^ t) ≤ a) → ∃ r : Int32, (∀ post : Int32 → Prop, post r → wp_S_place (nI t) a post) ∧ (∀ post : Int32 → Prop, post r → wp_M_place (nI (8 * 2 ^ t)) a post) := by
    intro c
    refine ⟨-1, fun post h => ?_, fun post h => ?_⟩
    · unfold wp_S_place
      refine ⟨fun _ => h, fun c1 => p_S_segments ht ⟨fun c2 => ?_, fun _ => h⟩⟩
      rcases c with c | c
      · exact absurd c c1
      · rw [Int32.lt_iff_toInt_lt] at c2; rw [Int32.le_iff_toInt_le] at c; omega
    · unfold wp_M_place wp_M_isNode
      refine ⟨fun _ => ⟨fun _ => h, fun q => absurd rfl q⟩, fun c1 => p_M_segments ht ⟨fun _ => ⟨fun _ => h, fun q => absurd rfl q⟩, fun c2 => ?_⟩⟩
      rcases c with c | c
      · exact absurd c c1
      · exact absurd c c2
  by_cases c1 : a < 1
  · exact out (Or.inl c1)
  · by_cases c2 : nI (2 ^ t) ≤ a
    · exact out (Or.inr c2)
    · have c0 : ¬ a < 0 := by
        intro q; apply c1
        rw [Int32.lt_iff_toInt_lt] at q ⊢
        have z0 : (0 : Int32).toInt = 0 := by decide
        have z1 : (1 : Int32).toInt = 1 := by decide
        omega
      obtain ⟨x, hx, rfl⟩ := nI_of c0
      have h1 : 1 ≤ x := by
        rcases Nat.lt_or_ge x 1 with q | q
        · exact absurd (nI_lt (b := 1) q (by decide)) c1
        · exact q
      have h2 : x < 2 ^ t := by
        rcases Nat.lt_or_ge x (2 ^ t) with q | q
        · exact q
        · exact absurd (nI_le q hx) c2
      refine ⟨nI (pit 8 x t), fun post h => ?_, fun post h => ?_⟩
      · unfold wp_S_place
        exact ⟨fun q => absurd q c1, fun _ => p_S_segments ht ⟨fun _ => p_S_pit8 ht h1 h2 h, fun q => absurd (nI_lt h2 (by omega)) q⟩⟩
      · unfold wp_M_place wp_M_isNode
        exact ⟨fun q => absurd q c1, fun _ => p_M_segments ht ⟨fun q => absurd q c2, fun _ => ⟨fun q => absurd q (by decide), fun _ => p_M_placeOf ht h1 h2 h⟩⟩⟩
theorem p_borne {K : Nat → Int64} {F : Nat → Int32} {J : Nat → Int64} {t : Nat} {a : Int32} (hR : Rm K F J) (ht : t ≤ 6) (ht1 : 1 ≤ t) : ∃ r : Int64, (∀ post : Int64 → Prop, post r → wp_S_borne K (nI t) a post) ∧ (∀ post : Int64 → Prop, post r → wp_M_borne (nI (8 * 2 ^ t)) F J a post) := by
  have hp := n_p6 ht
  have hpp := n_pp t
  have lgt : ∀ x, 1 ≤ x → x < 2 ^ t → Nat.log2 x < t := fun x h1 h2 => by
    have := lg_le (n := t - 1) h1 (by rw [show t - 1 + 1 = t by omega]; exact h2)
    omega
  by_cases c : ∃ x, 1 ≤ x ∧ x < 2 ^ t ∧ nI (pit 8 x t) = a
  · obtain ⟨x0, h1, h2, h3⟩ := c
    have uq : ∀ y, 1 ≤ y → y < 2 ^ t → y ≠ x0 → ¬ nI (pit 8 y t) = a := by
      intro y y1 y2 y3 y4
      rw [← h3] at y4
      have b1 := (pit_plo t (by omega) y (by omega) y1 y2).2
      have b2 := (pit_plo t (by omega) x0 (by omega) h1 h2).2
      rw [nI_eq (by omega) (by omega)] at y4
      exact y3 (pit_inj t (by omega) y (by omega) y1 y2 x0 (by omega) h1 h2 y4)
    have hl := lg_in h1
    refine ⟨bear K t (Nat.log2 x0) x0, fun post h => ?_, fun post h => ?_⟩
    · have key : ∀ k x, x + k = x0 → 1 ≤ x → wp_S_borne_L2 K (nI t) a post (k + 1) (nI x) := by
        intro k
        induction k with
        | zero =>
          intro x e hx
          obtain rfl : x = x0 := by omega
          rw [wp_S_borne_L2]
          refine p_S_segments ht ⟨fun q => absurd q (nI_ge h2 (by omega)), fun _ => ?_⟩
          refine p_S_pit8 ht h1 h2 ⟨fun _ => ?_, fun q => absurd h3 q⟩
          exact p_S_borneBy ht (lgt x h1 h2) hl.1 hl.2 h
        | succ k ih =>
          intro x e hx
          rw [wp_S_borne_L2]
          refine p_S_segments ht ⟨fun q => absurd q (nI_ge (by omega) (by omega)), fun _ => ?_⟩
          refine p_S_pit8 ht hx (by omega) ⟨fun q => absurd q (uq x hx (by omega) (by omega)), fun _ => ?_⟩
          rw [nI_1]
          exact ih (x + 1) (by omega) (by omega)
      unfold wp_S_borne
      exact ⟨_, key (x0 - 1) 1 (by omega) (Nat.le_refl 1)⟩
    · have key : ∀ k x (acc : Int64), x + k = 2 ^ t → 1 ≤ x → (x0 < x → acc = bear K t (Nat.log2 x0) x0) → wp_M_borne_L7 (nI (8 * 2 ^ t)) F J a post (k + 1) acc (nI x) := by
        intro k
        induction k with
        | zero =>
          intro x acc e hx hacc
          obtain rfl : x = 2 ^ t := by omega
          rw [wp_M_borne_L7]
          refine p_M_segments ht ⟨fun _ => ?_, fun q => absurd (nI_le (Nat.le_refl _) (by omega)) q⟩
          rw [hacc h2]
          exact h
        | succ k ih =>
          intro x acc e hx hacc
          rw [wp_M_borne_L7]
          refine p_M_segments ht ⟨fun q => absurd q (nI_ge (by omega) (by omega)), fun _ => ?_⟩
          rw [nI_1]
          have hlx := lg_in hx
          refine p_M_placeOf ht hx (by omega) ⟨fun q => ?_, fun q => ?_⟩
          · have ex : x = x0 := Classical.byContradiction (fun z => uq x hx (by omega) z q)
            refine p_M_bears hR ht (lgt x hx (by omega)) hlx.1 hlx.2 ?_
            exact ih (x + 1) _ (by omega) (by omega) (fun _ => by rw [ex])
          · have ex : x ≠ x0 := fun z => q (by rw [z]; exact h3)
            exact ih (x + 1) acc (by omega) (by omega) (fun z => hacc (by omega))
      unfold wp_M_borne
      exact ⟨_, key (2 ^ t - 1) 1 NOK (by omega) (Nat.le_refl 1) (fun z => absurd z (by omega))⟩
  · have uq : ∀ y, 1 ≤ y → y < 2 ^ t → ¬ nI (pit 8 y t) = a := fun y y1 y2 y3 => c ⟨y, y1, y2, y3⟩
    refine ⟨NOK, fun post h => ?_, fun post h => ?_⟩
    · have key : ∀ k x, x + k = 2 ^ t → 1 ≤ x → wp_S_borne_L2 K (nI t) a post (k + 1) (nI x) := by
        intro k
        induction k with
        | zero =>
          intro x e hx
          obtain rfl : x = 2 ^ t := by omega
          rw [wp_S_borne_L2]
          exact p_S_segments ht ⟨fun _ => h, fun q => absurd (nI_le (Nat.le_refl _) (by omega)) q⟩
        | succ k ih =>
          intro x e hx
          rw [wp_S_borne_L2]
          refine p_S_segments ht ⟨fun q => absurd q (nI_ge (by omega) (by omega)), fun _ => ?_⟩
          refine p_S_pit8 ht hx (by omega) ⟨fun q => absurd q (uq x hx (by omega)), fun _ => ?_⟩
          rw [nI_1]
          exact ih (x + 1) (by omega) (by omega)
      unfold wp_S_borne
      exact ⟨_, key (2 ^ t - 1) 1 (by omega) (Nat.le_refl 1)⟩
    · have key : ∀ k x, x + k = 2 ^ t → 1 ≤ x → wp_M_borne_L7 (nI (8 * 2 ^ t)) F J a post (k + 1) NOK (nI x) := by
        intro k
        induction k with
        | zero =>
          intro x e hx
          obtain rfl : x = 2 ^ t := by omega
          rw [wp_M_borne_L7]
          exact p_M_segments ht ⟨fun _ => h, fun q => absurd (nI_le (Nat.le_refl _) (by omega)) q⟩
        | succ k ih =>
          intro x e hx
          rw [wp_M_borne_L7]
          refine p_M_segments ht ⟨fun q => absurd q (nI_ge (by omega) (by omega)), fun _ => ?_⟩
          rw [nI_1]
          exact p_M_placeOf ht hx (by omega) ⟨fun q => absurd q (uq x hx (by omega)), fun _ => ih (x + 1) (by omega) (by omega)⟩
      unfold wp_M_borne
      exact ⟨_, key (2 ^ t - 1) 1 (by omega) (Nat.le_refl 1)⟩
end
section
/-! Blocks touched: how many values a row of numbers takes. -/
def hit (f : Nat → Nat) (v : Nat) : Nat → Bool
  | 0 => false
  | m + 1 => hit f v m || (f m == v)
theorem hit_iff (f : Nat → Nat) (v : Nat) : ∀ m, hit f v m = true ↔ ∃ j, j < m ∧ f j = v
  | 0 => by
    refine ⟨fun h => by simp [hit] at h, fun ⟨j, h, _⟩ => absurd h (by omega)⟩
  | m + 1 => by
    rw [hit, Bool.or_eq_true, beq_iff_eq, hit_iff f v m]
    constructor
    · rintro (⟨j, h, e⟩ | e)
      · exact ⟨j, by omega, e⟩
      · exact ⟨m, by omega, e⟩
    · rintro ⟨j, h, e⟩
      rcases Nat.lt_or_ge j m with q | q
      · exact Or.inl ⟨j, q, e⟩
      · obtain rfl : j = m := by omega
        exact Or.inr e
def dc (f : Nat → Nat) : Nat → Nat
  | 0 => 0
  | m + 1 => dc f m + (if hit f (f m) m = true then 0 else 1)
theorem dc_s (f : Nat → Nat) (m : Nat) : dc f (m + 1) = dc f m + (if hit f (f m) m = true then 0 else 1) := rfl
theorem dc_le (f : Nat → Nat) : ∀ m, dc f m ≤ m
  | 0 => Nat.le_refl 0
  | m + 1 => by
    have h := dc_le f m
    rw [dc_s]
    split <;> omega
def bc (f : Nat → Nat) (m : Nat) : Nat → Nat
  | 0 => 0
  | n + 1 => bc f m n + (if hit f n m = true then 1 else 0)
theorem bc_s (f : Nat → Nat) (m n : Nat) : bc f m (n + 1) = bc f m n + (if hit f n m = true then 1 else 0) := rfl
theorem bc_m (f : Nat → Nat) (m : Nat) : ∀ n, bc f (m + 1) n = bc f m n + (if f m < n ∧ ¬ hit f (f m) m = true then 1 else 0)
  | 0 => by rw [if_neg (fun q => absurd q.1 (by omega))]; rfl
  | n + 1 => by
    rw [bc_s, bc_s, bc_m f m n]
    by_cases e : f m = n
    · subst e
      have h1 : hit f (f m) (m + 1) = true := (hit_iff f (f m) (m + 1)).mpr ⟨m, by omega, rfl⟩
      rw [if_neg (fun q => absurd q.1 (by omega)), if_pos h1]
      by_cases c : hit f (f m) m = true
      · rw [if_pos c, if_neg (fun q => q.2 c)]
      · rw [if_neg c, if_pos ⟨by omega, c⟩]
    · have h1 : hit f n (m + 1) = hit f n m := by
        have h0 : (f m == n) = false := by simpa using e
        rw [hit, h0, Bool.or_false]
      have e2 : (f m < n + 1 ∧ ¬ hit f (f m) m = true) ↔ (f m < n ∧ ¬ hit f (f m) m = true) := ⟨fun q => ⟨by omega, q.2⟩, fun q => ⟨by omega, q.2⟩⟩
      rw [h1]
      simp only [e2]
      exact Nat.add_right_comm _ _ _
theorem bc_dc (f : Nat → Nat) (n : Nat) : ∀ m, (∀ j, j < m → f j < n) → bc f m n = dc f m
  | 0, _ => by
    have : ∀ n, bc f 0 n = 0 := by
      intro n
      induction n with
      | zero => rfl
      | succ n ih => rw [bc_s, ih]; rfl
    exact this n
  | m + 1, h => by
    rw [bc_m, dc_s, bc_dc f n m (fun j hj => h j (by omega))]
    have hm := h m (by omega)
    by_cases c : hit f (f m) m = true
    · rw [if_pos c, if_neg (fun q => q.2 c)]
    · rw [if_neg c, if_pos ⟨hm, c⟩]
theorem bc_congr {f g : Nat → Nat} {m m' : Nat} (h : ∀ v, hit f v m = hit g v m') : ∀ n, bc f m n = bc g m' n
  | 0 => rfl
  | n + 1 => by rw [bc_s, bc_s, bc_congr h n, h n]
/-- the store's row of known blocks holds the values of f so far -/
def Nb (f : Nat → Nat) (m : Nat) (B : Nat → Int32) : Prop := (∀ i, i < dc f m → ∃ j, j < m ∧ B i = nI (f j)) ∧ ∀ j, j < m → ∃ i, i < dc f m ∧ B i = nI (f j)
theorem p_S_noteBlock {f : Nat → Nat} {m : Nat} {B : Nat → Int32} {post : Int32 → (Nat → Int32) → Prop} (hm : m < 14) (hf : ∀ j, j ≤ m → f j < 2 ^ 31) (hB : Nb f m B) (h : ∀ B', Nb f (m + 1) B' → post (nI (dc f (m + 1))) B') : wp_S_noteBlock B (nI (f m)) (nI (dc f m)) post := by
  have hd := dc_le f m
  have key : ∀ k i, i + k = dc f m → (∀ i', i' < i → ¬ B i' = nI (f m)) → wp_S_noteBlock_L2 (nI (f m)) (nI (dc f m)) post (k + 1) (nI i) B := by
    intro k
    induction k with
    | zero =>
      intro i e hi
      obtain rfl : i = dc f m := by omega
      have hn : ¬ hit f (f m) m = true := by
        intro q
        obtain ⟨j, hj, ej⟩ := (hit_iff f (f m) m).mp q
        obtain ⟨i, hi1, hi2⟩ := hB.2 j hj
        exact hi i hi1 (by rw [hi2, ej])
      rw [wp_S_noteBlock_L2, nI_clamp (by omega), nI_1]
      refine ⟨fun _ => ⟨vp_in_nI (by omega) (by decide), ?_⟩, fun c => absurd (nI_le (Nat.le_refl _) (by omega)) c⟩
      have e : dc f (m + 1) = dc f m + 1 := by rw [dc_s, if_neg hn]
      have := h (upd B (dc f m) (nI (f m)))
      rw [e] at this
      refine this ⟨fun i hi9 => ?_, fun j hj => ?_⟩
      · rw [e] at hi9
        rcases Nat.lt_or_ge i (dc f m) with q | q
        · obtain ⟨j, hj, ej⟩ := hB.1 i q
          exact ⟨j, by omega, by rw [pk_un (by omega)]; exact ej⟩
        · obtain rfl : i = dc f m := by omega
          exact ⟨m, by omega, pk_us⟩
      · rw [e]
        rcases Nat.lt_or_ge j m with q | q
        · obtain ⟨i, hi1, hi2⟩ := hB.2 j q
          exact ⟨i, by omega, by rw [pk_un (by omega)]; exact hi2⟩
        · obtain rfl : j = m := by omega
          exact ⟨dc f j, by omega, pk_us⟩
    | succ k ih =>
      intro i e hi
      rw [wp_S_noteBlock_L2, nI_clamp (show i < 2 ^ 31 by omega), nI_1, nI_1]
      refine ⟨fun c => absurd c (nI_ge (by omega) (by omega)), fun _ => ⟨vp_in_nI (by omega) (by decide), fun c => ?_, fun c => ?_⟩⟩
      · obtain ⟨j, hj, ej⟩ := hB.1 i (by omega)
        have e2 : f j = f m := by
          rw [ej] at c
          rw [nI_eq (hf j (by omega)) (hf m (by omega))] at c
          exact c
        have hn : hit f (f m) m = true := (hit_iff f (f m) m).mpr ⟨j, hj, e2⟩
        have e3 : dc f (m + 1) = dc f m := by rw [dc_s, if_pos hn]; rfl
        have := h B
        rw [e3] at this
        refine this ⟨fun i hi9 => ?_, fun j' hj' => ?_⟩
        · rw [e3] at hi9
          obtain ⟨j, hj, ej⟩ := hB.1 i hi9
          exact ⟨j, by omega, ej⟩
        · rw [e3]
          rcases Nat.lt_or_ge j' m with q | q
          · exact hB.2 j' q
          · obtain rfl : j' = m := by omega
            obtain ⟨i, hi1, hi2⟩ := hB.2 j hj
            exact ⟨i, hi1, by rw [hi2, e2]⟩
      · refine ih (i + 1) (by omega) (fun i' hi' => ?_)
        rcases Nat.lt_or_ge i' i with q | q
        · exact hi i' q
        · obtain rfl : i' = i := by omega
          exact c
  unfold wp_S_noteBlock
  exact ⟨_, key (dc f m) 0 (by omega) (fun i' h => absurd h (by omega))⟩
/-- the store's order: the nodes from below, then the cells -/
def fS (K : Nat → Int64) (t : Nat) (key : Int64) (b : Nat) (j : Nat) : Nat := if j < t then pit 8 (nd K t key (t - 1 - j)) t / b else (2 ^ t + sg K t key * 8 + (j - t)) / b
def nodeAt (K : Nat → Int64) (t : Nat) (key : Int64) (j : Nat) : Nat := if j < t then nd K t key (t - 1 - j) else 0
theorem nd_half (K : Nat → Int64) (t : Nat) (key : Int64) (d : Nat) : nd K t key (d + 1) / 2 = nd K t key d := by
  rw [nd_s]
  split <;> omega
theorem nodeAt_s {K : Nat → Int64} {t : Nat} {key : Int64} {j : Nat} (h : j < t) : nodeAt K t key j / 2 = nodeAt K t key (j + 1) := by
  unfold nodeAt
  rw [if_pos h]
  by_cases c : j + 1 < t
  · rw [if_pos c, show t - 1 - j = (t - 1 - (j + 1)) + 1 by omega, nd_half]
  · rw [if_neg c, show t - 1 - j = 0 by omega, nd]
theorem nd_lt {K : Nat → Int64} {t : Nat} {key : Int64} {d : Nat} (hd : d < t) : 1 ≤ nd K t key d ∧ nd K t key d < 2 ^ t := by
  have h := nd_in K t key d
  have hp := n_pp d
  have h2 : 2 ^ (d + 1) ≤ 2 ^ t := Nat.pow_le_pow_right (by decide) (by omega)
  omega
theorem p_S_touched {K : Nat → Int64} {B : Nat → Int32} {t b : Nat} {key : Int64} {post : Int32 → (Nat → Int32) → Prop} (ht : t ≤ 6) (ht1 : 1 ≤ t) (hb : 1 ≤ b) (hb2 : b ≤ 1024) (h : ∀ B', post (nI (dc (fS K t key b) (t + 8))) B') : wp_S_touched K B (nI t) key (nI b) post := by
  have hp := n_p6 ht
  have hg := sg_lt K t key
  have hfs : ∀ j, j < t + 8 → fS K t key b j < 2 ^ 31 := by
    intro j hj
    unfold fS
    split
    · rename_i q
      have hn := nd_lt (K := K) (key := key) (show t - 1 - j < t by omega)
      have h1 := (pit_plo t (by omega) _ (by omega) hn.1 hn.2).2
      have h2 := Nat.div_le_self (pit 8 (nd K t key (t - 1 - j)) t) b
      omega
    · have h2 := Nat.div_le_self (2 ^ t + sg K t key * 8 + (j - t)) b
      omega
  have cells : ∀ k i B, i + k = 8 → Nb (fS K t key b) (t + i) B → wp_S_touched_L84 K (nI t) (nI b) (nI (2 ^ t + sg K t key * 8)) post (k + 1) (nI (dc (fS K t key b) (t + i))) (nI i) B := by
    intro k
    induction k with
    | zero =>
      intro i B e hB
      obtain rfl : i = 8 := by omega
      rw [wp_S_touched_L84]
      exact ⟨fun _ => h B, fun c => absurd (nI_le (a := 8) (b := 8) (Nat.le_refl _) (by decide)) c⟩
    | succ k ih =>
      intro i B e hB
      rw [wp_S_touched_L84]
      refine ⟨fun c => absurd c (nI_ge (b := 8) (by omega) (by omega)), fun _ => ⟨nI_ne0 hb (by omega), ?_⟩⟩
      rw [nI_add, pk_div (by omega) hb (by omega), nI_1]
      have ef : (2 ^ t + sg K t key * 8 + i) / b = fS K t key b (t + i) := by
        unfold fS
        rw [if_neg (by omega), Nat.add_sub_cancel_left]
      rw [ef]
      exact p_S_noteBlock (by omega) (fun j hj => hfs j (by omega)) hB (fun B' hB' => ih (i + 1) B' (by omega) hB')
  have nodes : ∀ k j B, j + k = t → Nb (fS K t key b) j B → wp_S_touched_L35 K (nI t) (nI b) (nI (sg K t key)) post (k + 1) (nI (dc (fS K t key b) j)) (nI (nodeAt K t key j)) B := by
    intro k
    induction k with
    | zero =>
      intro j B e hB
      obtain rfl : j = t := by omega
      rw [wp_S_touched_L35]
      have e0 : nodeAt K j key j = 0 := by unfold nodeAt; rw [if_neg (by omega)]
      rw [e0]
      refine ⟨fun _ => ?_, fun c => absurd (by decide) c⟩
      refine p_S_segments ht ?_
      rw [n_lit8, pk_mul, nI_add]
      exact ⟨9, cells 8 0 B rfl hB⟩
    | succ k ih =>
      intro j B e hB
      rw [wp_S_touched_L35]
      have hn := nd_lt (K := K) (key := key) (show t - 1 - j < t by omega)
      have en : nodeAt K t key j = nd K t key (t - 1 - j) := by unfold nodeAt; rw [if_pos (by omega)]
      have ed : nI (nodeAt K t key j) / 2 = nI (nodeAt K t key (j + 1)) := by
        rw [n_lit2, pk_div (by rw [en]; omega) (by decide) (by decide), nodeAt_s (by omega)]
      rw [ed]
      have hpi := (pit_plo t (by omega) _ (by omega) hn.1 hn.2).2
      refine ⟨fun c => absurd c (nI_nlt (b := 1) (by rw [en]; omega) (by rw [en]; omega)), fun _ => ?_⟩
      rw [en]
      refine p_S_pit8 ht hn.1 hn.2 ⟨nI_ne0 hb (by omega), ?_⟩
      rw [pk_div (by omega) hb (by omega)]
      have ef : pit 8 (nd K t key (t - 1 - j)) t / b = fS K t key b j := by
        unfold fS
        rw [if_pos (by omega)]
      rw [ef]
      exact p_S_noteBlock (by omega) (fun i hi => hfs i (by omega)) hB (fun B' hB' => ih (j + 1) B' (by omega) hB')
  unfold wp_S_touched
  refine ⟨fun c => absurd c (nI_nlt (b := 1) (by omega) (by omega)), fun _ => ⟨fun _ => ?_, fun c => absurd (nI_le (b := 1024) (by omega) (by decide)) c⟩⟩
  refine p_S_seek ht ?_
  refine p_S_segments ht ?_
  rw [nI_add, n_lit2, pk_div (by omega) (by decide) (by decide)]
  have e0 : (2 ^ t + sg K t key) / 2 = nodeAt K t key 0 := by
    have h9 := (nd_in K t key t).1
    have e9 : 2 ^ t + sg K t key = nd K t key t := by unfold sg; omega
    obtain ⟨r, rfl⟩ : ∃ r, t = r + 1 := ⟨t - 1, by omega⟩
    unfold nodeAt
    rw [e9, if_pos (by omega), nd_half]
    rfl
  rw [e0]
  exact ⟨t + 1, nodes t 0 B (by omega) ⟨fun i hi => absurd hi (by rw [dc]; omega), fun j hj => absurd hj (by omega)⟩⟩
/-- the reference's order: the cells, then the nodes from above -/
def fRf (K : Nat → Int64) (t : Nat) (key : Int64) (b : Nat) (j : Nat) : Nat := if j < 8 then (2 ^ t + (8 * sg K t key + j)) / b else pit 8 (nd K t key (j - 8)) t / b
def fg (x : Bool) : Int32 := if x = true then 1 else 0
theorem p_M_touched {K : Nat → Int64} {F : Nat → Int32} {J : Nat → Int64} {t b : Nat} {key : Int64} {post : Int32 → Prop} (hR : Rm K F J) (ht : t ≤ 6) (hb : 1 ≤ b) (hb2 : b ≤ 1024) (h : post (nI (bc (fRf K t key b) (8 + t) ((9 * 2 ^ t + b - 1) / b)))) : wp_M_touched (nI (8 * 2 ^ t)) F J key (nI b) post := by
  have hp := n_p6 ht
  have hpp := n_pp t
  have hg := sg_lt K t key
  have hN : (9 * 2 ^ t + b - 1) / b ≤ 9 * 2 ^ t := by
    rw [Nat.div_le_iff_le_mul_add_pred hb]
    have : 9 * 2 ^ t ≤ b * (9 * 2 ^ t) := Nat.le_mul_of_pos_left _ hb
    omega
  have hNlt : ∀ v, v < (9 * 2 ^ t + b - 1) / b → v * b < 9 * 2 ^ t := by
    intro v hv
    have h1 : v + 1 ≤ (9 * 2 ^ t + b - 1) / b := hv
    rw [Nat.le_div_iff_mul_le hb, Nat.add_mul, Nat.one_mul] at h1
    omega
  have hNge : 9 * 2 ^ t ≤ (9 * 2 ^ t + b - 1) / b * b := by
    have h1 := Nat.div_add_mod (9 * 2 ^ t + b - 1) b
    have h2 := Nat.mod_lt (9 * 2 ^ t + b - 1) hb
    rw [Nat.mul_comm] at h1
    omega
  generalize hNN : (9 * 2 ^ t + b - 1) / b = N at *
  have outer : ∀ k v, v + k = N → wp_M_touched_L38 (nI (8 * 2 ^ t)) F J key (nI b) (nI (9 * 2 ^ t)) (nI (sg K t key)) post (k + 1) (nI (bc (fRf K t key b) (8 + t) v)) (nI v) := by
    intro k
    induction k with
    | zero =>
      intro v e
      obtain rfl : v = N := by omega
      rw [wp_M_touched_L38, pk_mul]
      have hm : v * b < 2 ^ 31 := by
        have : v * b ≤ (9 * 2 ^ t) * 1024 := Nat.mul_le_mul hN hb2
        omega
      exact ⟨fun _ => h, fun c => absurd (nI_le hNge hm) c⟩
    | succ k ih =>
      intro v e
      have hv := hNlt v (by omega)
      rw [wp_M_touched_L38, pk_mul]
      refine ⟨fun c => absurd c (nI_ge hv (by omega)), fun _ => ?_⟩
      have fin := ih (v + 1) (by omega)
      rw [bc_s] at fin
      have nodes : ∀ r d, d + r = t → wp_M_touched_L105 (fun z0 z1 => wp_M_touched_L38 (nI (8 * 2 ^ t)) F J key (nI b) (nI (9 * 2 ^ t)) (nI (sg K t key)) post (k + 1) z0 z1) (nI (8 * 2 ^ t)) F J key (nI b) (nI (9 * 2 ^ t)) (nI (sg K t key)) (nI (bc (fRf K t key b) (8 + t) v)) (nI v) post (r + 1) (fg (hit (fRf K t key b) v (8 + d))) (nI (nd K t key d)) := by
        intro r
        induction r with
        | zero =>
          intro d e2
          obtain rfl : d = t := by omega
          have hn := nd_in K d key d
          rw [wp_M_touched_L105]
          refine p_M_segments ht ⟨fun _ => ?_, fun c => absurd (nI_le hn.1 (by rw [n_p1] at hn; omega)) c⟩
          rw [nI_1, nI_1]
          by_cases c : hit (fRf K d key b) v (8 + d) = true
          · rw [if_pos c] at fin
            rw [fg, if_pos c]
            exact ⟨fun q => absurd q (by decide), fun _ => fin⟩
          · rw [if_neg c] at fin
            rw [fg, if_neg c]
            exact ⟨fun _ => fin, fun q => absurd rfl q⟩
        | succ r ihr =>
          intro d e2
          have hn := nd_in K t key d
          have hnl := nd_lt (K := K) (key := key) (show d < t by omega)
          have hi := ihr (d + 1) (by omega)
          rw [nd_s, show 8 + (d + 1) = (8 + d) + 1 from rfl, hit] at hi
          have ef : fRf K t key b (8 + d) = pit 8 (nd K t key d) t / b := by
            unfold fRf
            rw [if_neg (by omega), Nat.add_sub_cancel_left]
          rw [ef] at hi
          have hpi := (pit_plo t (by omega) _ (by omega) hnl.1 hnl.2).2
          rw [wp_M_touched_L105]
          refine p_M_segments ht ⟨fun c => absurd c (nI_ge hnl.2 (by omega)), fun _ => ?_⟩
          by_cases c : hit (fRf K t key b) v (8 + d) = true
          · rw [c, Bool.true_or] at hi
            rw [fg, if_pos c]
            refine ⟨fun q => absurd q (by decide), fun _ => ?_⟩
            exact p_M_step hR ht (by omega) hn.1 hn.2 hi
          · have c' : hit (fRf K t key b) v (8 + d) = false := by simpa using c
            rw [c', Bool.false_or] at hi
            rw [fg, if_neg c]
            refine ⟨fun _ => ?_, fun q => absurd rfl q⟩
            refine p_M_placeOf ht hnl.1 hnl.2 ⟨nI_ne0 hb (by omega), ?_⟩
            rw [pk_div (by omega) hb (by omega)]
            have hdl := Nat.div_le_self (pit 8 (nd K t key d) t) b
            rw [nI_eq (by omega) (by omega)]
            refine ⟨fun q => ?_, fun q => ?_⟩
            · have : (pit 8 (nd K t key d) t / b == v) = true := by rw [beq_iff_eq]; exact q
              rw [this] at hi
              exact p_M_step hR ht (by omega) hn.1 hn.2 hi
            · have : (pit 8 (nd K t key d) t / b == v) = false := by simpa using q
              rw [this] at hi
              exact p_M_step hR ht (by omega) hn.1 hn.2 hi
      have cells : ∀ r i, i + r = 8 → wp_M_touched_L57 (fun z0 z1 => wp_M_touched_L38 (nI (8 * 2 ^ t)) F J key (nI b) (nI (9 * 2 ^ t)) (nI (sg K t key)) post (k + 1) z0 z1) (nI (8 * 2 ^ t)) F J key (nI b) (nI (9 * 2 ^ t)) (nI (sg K t key)) (nI (bc (fRf K t key b) (8 + t) v)) (nI v) post (r + 1) (fg (hit (fRf K t key b) v i)) (nI (8 * sg K t key + i)) := by
        intro r
        induction r with
        | zero =>
          intro i e2
          obtain rfl : i = 8 := by omega
          rw [wp_M_touched_L57, n_lit8, pk_mul, nI_add]
          refine ⟨fun _ => ⟨t + 1, ?_⟩, fun c => absurd (nI_le (Nat.le_refl _) (by omega)) c⟩
          exact nodes t 0 (by omega)
        | succ r ihr =>
          intro i e2
          have hi := ihr (i + 1) (by omega)
          rw [hit] at hi
          have ef : fRf K t key b i = (2 ^ t + (8 * sg K t key + i)) / b := by
            unfold fRf
            rw [if_pos (by omega)]
          rw [ef] at hi
          have hdl := Nat.div_le_self (2 ^ t + (8 * sg K t key + i)) b
          rw [wp_M_touched_L57, n_lit8, pk_mul, nI_add, nI_1]
          refine ⟨fun c => absurd c (nI_ge (by omega) (by omega)), fun _ => ?_⟩
          by_cases c : hit (fRf K t key b) v i = true
          · rw [c, Bool.true_or] at hi
            rw [fg, if_pos c]
            exact ⟨fun q => absurd q (by decide), fun _ => hi⟩
          · have c' : hit (fRf K t key b) v i = false := by simpa using c
            rw [c', Bool.false_or] at hi
            rw [fg, if_neg c]
            refine ⟨fun _ => ?_, fun q => absurd rfl q⟩
            refine p_M_segments ht ⟨nI_ne0 hb (by omega), ?_⟩
            rw [nI_add, pk_div (by omega) hb (by omega), nI_eq (by omega) (by omega)]
            refine ⟨fun q => ?_, fun q => ?_⟩
            · have : ((2 ^ t + (8 * sg K t key + i)) / b == v) = true := by rw [beq_iff_eq]; exact q
              rw [this] at hi
              exact hi
            · have : ((2 ^ t + (8 * sg K t key + i)) / b == v) = false := by simpa using q
              rw [this] at hi
              exact hi
      rw [n_lit8, pk_mul]
      exact ⟨9, cells 8 0 rfl⟩
  unfold wp_M_touched
  refine ⟨fun c => absurd c (nI_nlt (b := 1) (by omega) (by omega)), fun _ => ⟨fun _ => ?_, fun c => absurd (nI_le (b := 1024) (by omega) (by decide)) c⟩⟩
  refine p_M_segments ht ?_
  refine p_M_seek hR ht ?_
  rw [nI_add, show 8 * 2 ^ t + 2 ^ t = 9 * 2 ^ t by omega]
  exact ⟨N + 1, outer N 0 (by omega)⟩
theorem touched_eq {K : Nat → Int64} {t b : Nat} {key : Int64} (ht : t ≤ 6) (hb : 1 ≤ b) : bc (fRf K t key b) (8 + t) ((9 * 2 ^ t + b - 1) / b) = dc (fS K t key b) (t + 8) := by
  have hp := n_p6 ht
  have hg := sg_lt K t key
  have eq : ∀ v, hit (fS K t key b) v (t + 8) = hit (fRf K t key b) v (8 + t) := by
    intro v
    rw [Bool.eq_iff_iff, hit_iff, hit_iff]
    constructor
    · rintro ⟨j, hj, e⟩
      by_cases c : j < t
      · refine ⟨8 + (t - 1 - j), by omega, ?_⟩
        rw [← e]
        unfold fRf fS
        rw [if_neg (by omega), if_pos c, Nat.add_sub_cancel_left]
      · refine ⟨j - t, by omega, ?_⟩
        rw [← e]
        unfold fRf fS
        rw [if_pos (by omega), if_neg c, show 2 ^ t + (8 * sg K t key + (j - t)) = 2 ^ t + sg K t key * 8 + (j - t) by omega]
    · rintro ⟨j, hj, e⟩
      by_cases c : j < 8
      · refine ⟨t + j, by omega, ?_⟩
        rw [← e]
        unfold fRf fS
        rw [if_pos c, if_neg (by omega), Nat.add_sub_cancel_left, show 2 ^ t + (8 * sg K t key + j) = 2 ^ t + sg K t key * 8 + j by omega]
      · refine ⟨t - 1 - (j - 8), by omega, ?_⟩
        rw [← e]
        unfold fRf fS
        rw [if_neg c, if_pos (by omega), show t - 1 - (t - 1 - (j - 8)) = j - 8 by omega]
  rw [← bc_congr eq]
  refine bc_dc _ _ _ (fun j hj => ?_)
  have main : ∀ a, a < 9 * 2 ^ t → a / b < (9 * 2 ^ t + b - 1) / b := by
    intro a ha
    show a / b + 1 ≤ _
    rw [Nat.le_div_iff_mul_le hb, Nat.add_mul, Nat.one_mul]
    have := Nat.div_mul_le_self a b
    omega
  unfold fS
  split
  · have hn := nd_lt (K := K) (key := key) (show t - 1 - j < t by omega)
    have h2 : 2 ≤ 2 ^ t := by
      have : 2 ^ 1 ≤ 2 ^ t := Nat.pow_le_pow_right (by decide) (by omega)
      exact this
    have h1 := pit_lt t (by omega) _ (by omega) hn.1 hn.2
    exact main _ (by omega)
  · exact main _ (by omega)
end
section
/-! Windows of the store: heights, packing, joining, spreading. -/
def wf (x h : Nat) : Nat := x / 2 ^ h * (8 * 2 ^ h)
theorem wf_in {t x h : Nat} (ht : t ≤ 6) (hh : h ≤ t) (hx : x < 2 ^ t) : wf x h + 8 * 2 ^ h ≤ 8 * 2 ^ t ∧ wf x h ≤ 8 * x ∧ 8 * x + 8 ≤ wf x h + 8 * 2 ^ h := by
  have hp := n_pp h
  have e : 2 ^ t = 2 ^ (t - h) * 2 ^ h := by rw [← Nat.pow_add, show t - h + h = t by omega]
  have h1 : x / 2 ^ h < 2 ^ (t - h) := by
    rw [Nat.div_lt_iff_lt_mul hp, ← e]
    exact hx
  have h2 : (x / 2 ^ h + 1) * (8 * 2 ^ h) ≤ 2 ^ (t - h) * (8 * 2 ^ h) := Nat.mul_le_mul_right _ h1
  have e2 : 2 ^ (t - h) * (8 * 2 ^ h) = 8 * 2 ^ t := by rw [e, ← Nat.mul_assoc, ← Nat.mul_assoc, Nat.mul_comm _ 8]
  have h3 := Nat.div_add_mod x (2 ^ h)
  have h4 := Nat.mod_lt x hp
  have e3 : x / 2 ^ h * (8 * 2 ^ h) = 8 * (2 ^ h * (x / 2 ^ h)) := by rw [← Nat.mul_assoc, Nat.mul_comm _ 8, Nat.mul_assoc, Nat.mul_comm (x / 2 ^ h)]
  rw [e2, Nat.add_mul, Nat.one_mul] at h2
  unfold wf
  rw [e3] at h2 ⊢
  generalize 2 ^ h * (x / 2 ^ h) = y at *
  omega
theorem p_S_firstCell {x h : Nat} {post : Int32 → Prop} (hx : x < 64) (hh : h ≤ 6) (hp : post (nI (wf x h))) : wp_S_firstCell (nI x) (nI h) post := by
  unfold wp_S_firstCell
  refine p_S_windowCells hh ?_
  rw [n_shr (by omega) (by omega), pk_mul]
  exact hp
theorem p_S_keysInWindow {K : Nat → Int64} {t x h : Nat} {post : Int32 → Prop} (ht : t ≤ 6) (hh : h ≤ t) (hx : x < 2 ^ t) (hp : post (nI (cnt K (wf x h) (8 * 2 ^ h)))) : wp_S_keysInWindow K (nI x) (nI h) post := by
  have h6 := n_p6 ht
  have hw := wf_in ht hh hx
  unfold wp_S_keysInWindow
  refine p_S_firstCell (by omega) (by omega) ?_
  refine p_S_windowCells (by omega) ?_
  exact p_S_keysAmong (by omega) hp
def mostF (t h : Nat) : Nat := 8 * 2 ^ h * (4 * t - h) / (4 * t)
def fewF (t h : Nat) : Nat := (8 * 2 ^ h * (t + h) + 8 * t - 1) / (8 * t)
theorem n_mf {t h : Nat} (ht : t ≤ 6) (hh : h ≤ t) (ht1 : 1 ≤ t) : 8 * 2 ^ h * (4 * t - h) < 2 ^ 20 ∧ 8 * 2 ^ h * (t + h) < 2 ^ 20 ∧ mostF t h ≤ 8 * 2 ^ h := by
  have hp := n_p6 (show h ≤ 6 by omega)
  have a : 8 * 2 ^ h * (4 * t - h) ≤ 512 * 24 := Nat.mul_le_mul (by omega) (by omega)
  have b : 8 * 2 ^ h * (t + h) ≤ 512 * 12 := Nat.mul_le_mul (by omega) (by omega)
  refine ⟨by omega, by omega, ?_⟩
  unfold mostF
  have c : 8 * 2 ^ h * (4 * t - h) ≤ 8 * 2 ^ h * (4 * t) := Nat.mul_le_mul_left _ (by omega)
  exact Nat.le_trans (Nat.div_le_div_right c) (by rw [Nat.mul_div_cancel _ (by omega)]; exact Nat.le_refl _)
theorem p_S_mostKeys {t h : Nat} {post : Int32 → Prop} (ht : t ≤ 6) (hh : h ≤ t) (ht1 : 1 ≤ t) (hp : post (nI (mostF t h))) : wp_S_mostKeys (nI t) (nI h) post := by
  have hm := n_mf ht hh ht1
  unfold wp_S_mostKeys
  refine p_S_windowCells (by omega) ?_
  rw [n_lit4, pk_mul, pk_sub (by omega), pk_mul, pk_div (by omega) (by omega) (by omega)]
  exact ⟨nI_ne0 (by omega) (by omega), hp⟩
theorem p_S_fewestKeys {t h : Nat} {post : Int32 → Prop} (ht : t ≤ 6) (hh : h ≤ t) (ht1 : 1 ≤ t) (hp : post (nI (fewF t h))) : wp_S_fewestKeys (nI t) (nI h) post := by
  have hm := n_mf ht hh ht1
  unfold wp_S_fewestKeys
  refine p_S_windowCells (by omega) ?_
  rw [n_lit8, pk_mul, nI_add, pk_mul, nI_add, n_lit1, pk_sub (by omega), pk_div (by omega) (by omega) (by omega)]
  exact ⟨nI_ne0 (by omega) (by omega), hp⟩
/-- a window of this height has room for one more, has enough -/
def okR (K : Nat → Int64) (t x h : Nat) : Prop := cnt K (wf x h) (8 * 2 ^ h) + 1 ≤ mostF t h
def okE (K : Nat → Int64) (t x h : Nat) : Prop := fewF t h ≤ cnt K (wf x h) (8 * 2 ^ h)
theorem cnt_lt {K : Nat → Int64} {a h : Nat} (hh : h ≤ 6) : cnt K a (8 * 2 ^ h) ≤ 512 := by
  have hp := n_p6 hh
  have := cnt_le K a (8 * 2 ^ h)
  omega
theorem fewF_lt {t h : Nat} (ht : t ≤ 6) (hh : h ≤ t) (ht1 : 1 ≤ t) : fewF t h < 2 ^ 21 := by
  have hm := n_mf ht hh ht1
  unfold fewF
  have := Nat.div_le_self (8 * 2 ^ h * (t + h) + 8 * t - 1) (8 * t)
  omega
theorem p_S_heightWithRoom {K : Nat → Int64} {t x : Nat} {post : Int32 → Prop} (ht : t ≤ 6) (ht1 : 1 ≤ t) (hx : x < 2 ^ t)
    (h1 : ∀ h, h ≤ t → okR K t x h → (∀ j, j < h → ¬ okR K t x j) → post (nI h)) (h0 : (∀ h, h ≤ t → ¬ okR K t x h) → post (-1)) : wp_S_heightWithRoom K (nI t) (nI x) post := by
  have key : ∀ k h, h + k = t + 1 → (∀ j, j < h → ¬ okR K t x j) → wp_S_heightWithRoom_L2 K (nI t) (nI x) post (k + 1) (nI h) := by
    intro k
    induction k with
    | zero =>
      intro h e hn
      rw [wp_S_heightWithRoom_L2]
      exact ⟨fun _ => h0 (fun j hj => hn j (by omega)), fun c => absurd (nI_lt (by omega) (by omega)) c⟩
    | succ k ih =>
      intro h e hn
      have hm := n_mf ht (show h ≤ t by omega) ht1
      have hp := n_p6 (show h ≤ 6 by omega)
      have hc := cnt_lt (K := K) (a := wf x h) (show h ≤ 6 by omega)
      rw [wp_S_heightWithRoom_L2]
      refine ⟨fun c => absurd c (nI_nlt (by omega) (by omega)), fun _ => ?_⟩
      refine p_S_keysInWindow ht (by omega) hx ?_
      refine p_S_mostKeys ht (by omega) ht1 ?_
      rw [nI_1, nI_1]
      refine pk_lt (mostF t h) (cnt K (wf x h) (8 * 2 ^ h) + 1) (fun q => ?_) (fun q => ?_) rfl rfl (by omega) (by omega)
      · refine ih (h + 1) (by omega) (fun j hj => ?_)
        rcases Nat.lt_or_ge j h with z | z
        · exact hn j z
        · obtain rfl : j = h := by omega
          unfold okR
          omega
      · exact h1 h (by omega) q hn
  unfold wp_S_heightWithRoom
  exact ⟨_, key (t + 1) 0 (by omega) (fun j hj => absurd hj (by omega))⟩
theorem p_S_heightWithEnough {K : Nat → Int64} {t x : Nat} {post : Int32 → Prop} (ht : t ≤ 6) (ht1 : 1 ≤ t) (hx : x < 2 ^ t)
    (h1 : ∀ h, h ≤ t → okE K t x h → (∀ j, j < h → ¬ okE K t x j) → post (nI h)) (h0 : (∀ h, h ≤ t → ¬ okE K t x h) → post (-1)) : wp_S_heightWithEnough K (nI t) (nI x) post := by
  have key : ∀ k h, h + k = t + 1 → (∀ j, j < h → ¬ okE K t x j) → wp_S_heightWithEnough_L2 K (nI t) (nI x) post (k + 1) (nI h) := by
    intro k
    induction k with
    | zero =>
      intro h e hn
      rw [wp_S_heightWithEnough_L2]
      exact ⟨fun _ => h0 (fun j hj => hn j (by omega)), fun c => absurd (nI_lt (by omega) (by omega)) c⟩
    | succ k ih =>
      intro h e hn
      have hm := fewF_lt ht (show h ≤ t by omega) ht1
      have hp := n_p6 (show h ≤ 6 by omega)
      have hc := cnt_lt (K := K) (a := wf x h) (show h ≤ 6 by omega)
      rw [wp_S_heightWithEnough_L2]
      refine ⟨fun c => absurd c (nI_nlt (by omega) (by omega)), fun _ => ?_⟩
      refine p_S_keysInWindow ht (by omega) hx ?_
      refine p_S_fewestKeys ht (by omega) ht1 ?_
      rw [nI_1]
      refine pk_lt (cnt K (wf x h) (8 * 2 ^ h)) (fewF t h) (fun q => ?_) (fun q => ?_) rfl rfl (by omega) (by omega)
      · refine ih (h + 1) (by omega) (fun j hj => ?_)
        rcases Nat.lt_or_ge j h with z | z
        · exact hn j z
        · obtain rfl : j = h := by omega
          unfold okE
          omega
      · exact h1 h (by omega) q hn
  unfold wp_S_heightWithEnough
  exact ⟨_, key (t + 1) 0 (by omega) (fun j hj => absurd hj (by omega))⟩
theorem p_S_clear {K V : Nat → Int64} {i : Nat} {post : (Nat → Int64) → (Nat → Int64) → Prop} (hi : i < 512) (h : post (vp_updL K i NOK) (vp_updL V i 0)) : wp_S_clear K V (nI i) post := by
  unfold wp_S_clear
  rw [nI_clamp (by omega)]
  exact ⟨vp_in_nI hi (by decide), h⟩
theorem p_S_shift {K V : Nat → Int64} {i j : Nat} {post : (Nat → Int64) → (Nat → Int64) → Prop} (hi : i < 512) (hj : j < 512) (h1 : i = j → post K V)
    (h2 : i ≠ j → post (vp_updL (vp_updL K j (K i)) i NOK) (vp_updL (vp_updL V j (V i)) i 0)) : wp_S_shift K V (nI i) (nI j) post := by
  unfold wp_S_shift
  rw [nI_clamp (show i < 2 ^ 31 by omega), nI_clamp (show j < 2 ^ 31 by omega), nI_eq (by omega) (by omega)]
  exact ⟨h1, fun c => ⟨vp_in_nI hi (by decide), vp_in_nI hj (by decide), p_S_clear hi (h2 c)⟩⟩
/-- K', V': the first i cells of the window at a are packed -/
def Pk (K V : Nat → Int64) (a i : Nat) (K' V' : Nat → Int64) : Prop :=
  (∀ j, j < i → K (a + j) ≠ NOK → K' (a + cnt K a j) = K (a + j) ∧ V' (a + cnt K a j) = V (a + j)) ∧ (∀ p, cnt K a i ≤ p → p < i → K' (a + p) = NOK) ∧ (∀ q, q < a ∨ a + i ≤ q → K' q = K q ∧ V' q = V q)
theorem cnt_full {K : Nat → Int64} {a j i : Nat} (h : K (a + j) ≠ NOK) (hj : j < i) : cnt K a j < cnt K a i := by
  obtain ⟨r, rfl⟩ : ∃ r, i = j + 1 + r := ⟨i - (j + 1), by omega⟩
  have h1 := cnt_mono K a (j + 1) r
  rw [cnt_s, if_neg h] at h1
  omega
theorem pk_none {K V : Nat → Int64} {a i : Nat} {K' V' : Nat → Int64} (h : Pk K V a i K' V') (hn : K (a + i) = NOK) : Pk K V a (i + 1) K' V' := by
  obtain ⟨h1, h2, h3⟩ := h
  refine ⟨fun j hj hf => ?_, fun p hp hp2 => ?_, fun q hq => h3 q (by omega)⟩
  · have : j ≠ i := fun e => hf (by rw [e]; exact hn)
    exact h1 j (by omega) hf
  · rw [cnt_s, if_pos hn] at hp
    rcases Nat.lt_or_ge p i with z | z
    · exact h2 p hp z
    · obtain rfl : p = i := by omega
      rw [(h3 (a + p) (by omega)).1]
      exact hn
theorem pk_same {K V : Nat → Int64} {a i : Nat} {K' V' : Nat → Int64} (h : Pk K V a i K' V') (hn : K (a + i) ≠ NOK) (e : i = cnt K a i) : Pk K V a (i + 1) K' V' := by
  obtain ⟨h1, h2, h3⟩ := h
  refine ⟨fun j hj hf => ?_, fun p hp hp2 => ?_, fun q hq => h3 q (by omega)⟩
  · rcases Nat.lt_or_ge j i with z | z
    · exact h1 j z hf
    · obtain rfl : j = i := by omega
      rw [← e]
      exact h3 _ (by omega)
  · rw [cnt_s, if_neg hn] at hp
    omega
theorem pk_move {K V : Nat → Int64} {a i : Nat} {K' V' : Nat → Int64} (h : Pk K V a i K' V') (hn : K (a + i) ≠ NOK) (e : i ≠ cnt K a i) :
    Pk K V a (i + 1) (vp_updL (vp_updL K' (a + cnt K a i) (K' (a + i))) (a + i) NOK) (vp_updL (vp_updL V' (a + cnt K a i) (V' (a + i))) (a + i) 0) := by
  obtain ⟨h1, h2, h3⟩ := h
  have hl := cnt_le K a i
  obtain ⟨e1, e2⟩ := h3 (a + i) (by omega)
  refine ⟨fun j hj hf => ?_, fun p hp hp2 => ?_, fun q hq => ?_⟩
  · rcases Nat.lt_or_ge j i with z | z
    · have hc := cnt_full hf z
      rw [pk_uLn (by omega), pk_uLn (by omega), pk_uLn (by omega), pk_uLn (by omega)]
      exact h1 j z hf
    · obtain rfl : j = i := by omega
      rw [pk_uLn (by omega), pk_uLs, pk_uLn (by omega), pk_uLs, e1, e2]
      exact ⟨rfl, rfl⟩
  · rw [cnt_s, if_neg hn] at hp
    rcases Nat.lt_or_ge p i with z | z
    · rw [pk_uLn (by omega), pk_uLn (by omega)]
      exact h2 p (by omega) z
    · obtain rfl : p = i := by omega
      exact pk_uLs
  · rw [pk_uLn (by omega), pk_uLn (by omega), pk_uLn (by omega), pk_uLn (by omega)]
    exact h3 q (by omega)
theorem p_S_pack {K V : Nat → Int64} {a w : Nat} (hw : a + w ≤ 512) : ∃ K2 V2, Pk K V a w K2 V2 ∧ ∀ post : Int32 → (Nat → Int64) → (Nat → Int64) → Prop, post (nI (cnt K a w)) K2 V2 → wp_S_pack K V (nI a) (nI w) post := by
  have key : ∀ k i K' V', i + k = w → Pk K V a i K' V' → ∃ K2 V2, Pk K V a w K2 V2 ∧ ∀ post : Int32 → (Nat → Int64) → (Nat → Int64) → Prop, post (nI (cnt K a w)) K2 V2 → wp_S_pack_L5 (nI a) (nI w) post (k + 1) (nI (a + cnt K a i)) (nI (a + i)) K' V' := by
    intro k
    induction k with
    | zero =>
      intro i K' V' e hP
      obtain rfl : i = w := by omega
      refine ⟨K', V', hP, fun post h => ?_⟩
      rw [wp_S_pack_L5, nI_add, pk_sub (by omega), Nat.add_sub_cancel_left]
      exact ⟨fun _ => h, fun c => absurd (nI_le (Nat.le_refl _) (by omega)) c⟩
    | succ k ih =>
      intro i K' V' e hP
      have hl := cnt_le K a i
      have e1 := (hP.2.2 (a + i) (by omega)).1
      by_cases c : K (a + i) = NOK
      · obtain ⟨K2, V2, h1, h2⟩ := ih (i + 1) K' V' (by omega) (pk_none hP c)
        refine ⟨K2, V2, h1, fun post h => ?_⟩
        have this := h2 post h
        rw [cnt_s, if_pos c] at this
        rw [wp_S_pack_L5, nI_add, nI_clamp (by omega), nI_1, nI_1, e1]
        exact ⟨fun c => absurd c (nI_ge (by omega) (by omega)), fun _ => ⟨vp_in_nI (by omega) (by decide), fun _ => this, fun z => absurd c z⟩⟩
      · by_cases q : i = cnt K a i
        · obtain ⟨K2, V2, h1, h2⟩ := ih (i + 1) K' V' (by omega) (pk_same hP c q)
          refine ⟨K2, V2, h1, fun post h => ?_⟩
          have this := h2 post h
          rw [cnt_s, if_neg c] at this
          rw [wp_S_pack_L5, nI_add, nI_clamp (by omega), nI_1, nI_1, e1]
          refine ⟨fun c => absurd c (nI_ge (by omega) (by omega)), fun _ => ⟨vp_in_nI (by omega) (by decide), fun z => absurd z c, fun _ => ?_⟩⟩
          exact p_S_shift (by omega) (by omega) (fun _ => this) (fun z => absurd (by omega) z)
        · obtain ⟨K2, V2, h1, h2⟩ := ih (i + 1) _ _ (by omega) (pk_move hP c q)
          refine ⟨K2, V2, h1, fun post h => ?_⟩
          have this := h2 post h
          rw [cnt_s, if_neg c] at this
          rw [wp_S_pack_L5, nI_add, nI_clamp (by omega), nI_1, nI_1, e1]
          refine ⟨fun c => absurd c (nI_ge (by omega) (by omega)), fun _ => ⟨vp_in_nI (by omega) (by decide), fun z => absurd z c, fun _ => ?_⟩⟩
          exact p_S_shift (by omega) (by omega) (fun z => absurd (by omega) q) (fun _ => this)
  unfold wp_S_pack
  obtain ⟨K2, V2, h1, h2⟩ := key w 0 K V (by omega) ⟨fun j hj => absurd hj (by omega), fun p h1 h2 => absurd h2 (by omega), fun q _ => ⟨rfl, rfl⟩⟩
  exact ⟨K2, V2, h1, fun post h => ⟨_, h2 post h⟩⟩
/-- where a key goes among the first n of a row; the row with it -/
def ip (f : Nat → Int64) (key : Int64) : Nat → Nat
  | 0 => 0
  | n + 1 => if f n ≤ key then n + 1 else ip f key n
theorem ip_s (f : Nat → Int64) (key : Int64) (n : Nat) : ip f key (n + 1) = if f n ≤ key then n + 1 else ip f key n := rfl
theorem ip_le (f : Nat → Int64) (key : Int64) : ∀ n, ip f key n ≤ n
  | 0 => Nat.le_refl 0
  | n + 1 => by
    have h := ip_le f key n
    rw [ip_s]
    split <;> omega
def kI (f : Nat → Int64) (key : Int64) (p j : Nat) : Int64 := if j < p then f j else if j = p then key else f (j - 1)
theorem p_S_insertPacked {K V : Nat → Int64} {a n : Nat} {key v : Int64} (hw : a + n < 512) :
    ∃ K2 V2, (∀ j, j ≤ n → K2 (a + j) = kI (fun i => K (a + i)) key (ip (fun i => K (a + i)) key n) j ∧ V2 (a + j) = kI (fun i => V (a + i)) v (ip (fun i => K (a + i)) key n) j) ∧ (∀ q, q < a ∨ a + n < q → K2 q = K q ∧ V2 q = V q) ∧
      ∀ post : (Nat → Int64) → (Nat → Int64) → Prop, post K2 V2 → wp_S_insertPacked K V (nI a) (nI n) key v post := by
  have fin : ∀ c K' V', c ≤ n → ip (fun i => K (a + i)) key n = c → (∀ j, j < c → K' (a + j) = K (a + j) ∧ V' (a + j) = V (a + j)) → (∀ j, c ≤ j → j < n → K' (a + (j + 1)) = K (a + j) ∧ V' (a + (j + 1)) = V (a + j)) → (∀ q, q < a ∨ a + n < q → K' q = K q ∧ V' q = V q) →
      (∀ j, j ≤ n → vp_updL K' (a + c) key (a + j) = kI (fun i => K (a + i)) key (ip (fun i => K (a + i)) key n) j ∧ vp_updL V' (a + c) v (a + j) = kI (fun i => V (a + i)) v (ip (fun i => K (a + i)) key n) j) ∧ (∀ q, q < a ∨ a + n < q → vp_updL K' (a + c) key q = K q ∧ vp_updL V' (a + c) v q = V q) := by
    intro c K' V' hc hip h1 h2 h3
    refine ⟨fun j hj => ?_, fun q hq => ?_⟩
    · rw [hip]
      unfold kI
      rcases Nat.lt_trichotomy j c with q | q | q
      · rw [if_pos q, if_pos q, pk_uLn (by omega), pk_uLn (by omega)]
        exact h1 j q
      · rw [if_neg (show ¬ j < c by omega), if_pos q, if_neg (show ¬ j < c by omega), if_pos q, q, pk_uLs, pk_uLs]
        exact ⟨rfl, rfl⟩
      · rw [if_neg (by omega), if_neg (by omega), if_neg (by omega), if_neg (by omega), pk_uLn (by omega), pk_uLn (by omega)]
        have := h2 (j - 1) (by omega) (by omega)
        rw [show j - 1 + 1 = j by omega] at this
        exact this
    · rw [pk_uLn (by omega), pk_uLn (by omega)]
      exact h3 q hq
  have key2 : ∀ c K' V', c ≤ n → ip (fun i => K (a + i)) key n = ip (fun i => K (a + i)) key c → (∀ j, j < c → K' (a + j) = K (a + j) ∧ V' (a + j) = V (a + j)) → (∀ j, c ≤ j → j < n → K' (a + (j + 1)) = K (a + j) ∧ V' (a + (j + 1)) = V (a + j)) → (∀ q, q < a ∨ a + n < q → K' q = K q ∧ V' q = V q) →
      ∃ K2 V2, (∀ j, j ≤ n → K2 (a + j) = kI (fun i => K (a + i)) key (ip (fun i => K (a + i)) key n) j ∧ V2 (a + j) = kI (fun i => V (a + i)) v (ip (fun i => K (a + i)) key n) j) ∧ (∀ q, q < a ∨ a + n < q → K2 q = K q ∧ V2 q = V q) ∧
        ∀ post : (Nat → Int64) → (Nat → Int64) → Prop, post K2 V2 → wp_S_insertPacked_L5 (nI a) key v post (c + 1) (nI (a + c)) K' V' := by
    intro c
    induction c with
    | zero =>
      intro K' V' hc hip h1 h2 h3
      obtain ⟨f1, f2⟩ := fin 0 K' V' hc hip h1 h2 h3
      refine ⟨_, _, f1, f2, fun post h => ?_⟩
      rw [wp_S_insertPacked_L5, nI_clamp (show a + 0 < 2 ^ 31 by omega)]
      exact ⟨fun _ => ⟨vp_in_nI (by omega) (by decide), h⟩, fun q => absurd (nI_le (by omega) (by omega)) q⟩
    | succ c ih =>
      intro K' V' hc hip h1 h2 h3
      have e1 : nI (a + (c + 1)) - 1 = nI (a + c) := nI_pred (a + c)
      have e2 : nI (a + (c + 1)) + (-1) = nI (a + c) := pk_m1 (a + c)
      have e3 := (h1 c (by omega)).1
      rw [ip_s] at hip
      by_cases q : K (a + c) ≤ key
      · rw [if_pos q] at hip
        obtain ⟨f1, f2⟩ := fin (c + 1) K' V' hc hip h1 h2 h3
        refine ⟨_, _, f1, f2, fun post h => ?_⟩
        rw [wp_S_insertPacked_L5, e1, nI_clamp (show a + (c + 1) < 2 ^ 31 by omega), nI_clamp (show a + c < 2 ^ 31 by omega), e3]
        exact ⟨fun z => absurd z (nI_ge (by omega) (by omega)), fun _ => ⟨vp_in_nI (by omega) (by decide), fun _ => ⟨vp_in_nI (by omega) (by decide), h⟩, fun z => absurd q z⟩⟩
      · rw [if_neg q] at hip
        obtain ⟨K2, V2, f1, f2, f3⟩ := ih (vp_updL (vp_updL K' (a + (c + 1)) (K' (a + c))) (a + c) NOK) (vp_updL (vp_updL V' (a + (c + 1)) (V' (a + c))) (a + c) 0) (by omega) hip (fun j hj => by
            rw [pk_uLn (by omega), pk_uLn (by omega), pk_uLn (by omega), pk_uLn (by omega)]
            exact h1 j (by omega)) (fun j hj hj2 => by
            rcases Nat.lt_or_ge c j with z | z
            · rw [pk_uLn (by omega), pk_uLn (by omega), pk_uLn (by omega), pk_uLn (by omega)]
              exact h2 j (by omega) hj2
            · obtain rfl : j = c := by omega
              rw [pk_uLn (by omega), pk_uLs, pk_uLn (by omega), pk_uLs]
              exact h1 j (by omega)) (fun p hp => by
            rw [pk_uLn (by omega), pk_uLn (by omega), pk_uLn (by omega), pk_uLn (by omega)]
            exact h3 p hp)
        refine ⟨K2, V2, f1, f2, fun post h => ?_⟩
        rw [wp_S_insertPacked_L5, e1, e2, nI_clamp (show a + c < 2 ^ 31 by omega), e3]
        refine ⟨fun z => absurd z (nI_ge (by omega) (by omega)), fun _ => ⟨vp_in_nI (by omega) (by decide), fun z => absurd z q, fun _ => ?_⟩⟩
        exact p_S_shift (by omega) (by omega) (fun z => absurd z (by omega)) (fun _ => f3 post h)
  unfold wp_S_insertPacked
  obtain ⟨K2, V2, f1, f2, f3⟩ := key2 n K V (Nat.le_refl n) rfl (fun j _ => ⟨rfl, rfl⟩) (fun j h1 h2 => absurd h2 (by omega)) (fun q _ => ⟨rfl, rfl⟩)
  refine ⟨K2, V2, f1, f2, fun post h => ⟨n + 1, ?_⟩⟩
  rw [nI_add]
  exact f3 post h
/-- places of a spread row -/
theorem tj_ge {i w n : Nat} (hn : 0 < n) (hw : n ≤ w) : i ≤ i * w / n := by
  rw [Nat.le_div_iff_mul_le hn]
  exact Nat.mul_le_mul_left i hw
theorem tj_s {i w n : Nat} (hn : 0 < n) (hw : n ≤ w) : i * w / n < (i + 1) * w / n := by
  show i * w / n + 1 ≤ _
  rw [Nat.le_div_iff_mul_le hn, Nat.add_mul, Nat.one_mul, Nat.add_mul, Nat.one_mul]
  have := Nat.div_mul_le_self (i * w) n
  omega
theorem tj_lt {i j w n : Nat} (hn : 0 < n) (hw : n ≤ w) (h : i < j) : i * w / n < j * w / n := by
  obtain ⟨r, rfl⟩ : ∃ r, j = i + 1 + r := ⟨j - (i + 1), by omega⟩
  induction r with
  | zero => exact tj_s hn hw
  | succ r ih =>
    have h1 := ih (by omega)
    have h2 := tj_s (i := i + 1 + r) hn hw
    exact Nat.lt_trans h1 h2
theorem tj_in {i w n : Nat} (hn : 0 < n) (hw : n ≤ w) (h : i < n) : i * w / n < w := by
  rw [Nat.div_lt_iff_lt_mul hn, Nat.mul_comm w n]
  exact Nat.mul_lt_mul_of_pos_right h (by omega)
/-- a row f, g of n is spread over the w cells at a; elsewhere K0, V0 -/
def Ar (K0 V0 : Nat → Int64) (a w n : Nat) (f g K' V' : Nat → Int64) : Prop :=
  (∀ j, j < n → K' (a + j * w / n) = f j ∧ V' (a + j * w / n) = g j) ∧ (∀ p, p < w → (∀ j, j < n → p ≠ j * w / n) → K' (a + p) = NOK) ∧ (∀ q, q < a ∨ a + w ≤ q → K' q = K0 q ∧ V' q = V0 q)
theorem p_S_spreadPacked {K V f g : Nat → Int64} {lh : Int32} {mv : Int64} {a h n : Nat} (hh : h ≤ 6) (hw : a + 8 * 2 ^ h ≤ 512) (hn : n ≤ 8 * 2 ^ h)
    (hf : ∀ j, j < n → K (a + j) = f j ∧ V (a + j) = g j) (he : ∀ p, n ≤ p → p < 8 * 2 ^ h → K (a + p) = NOK) :
    ∃ K2 V2, Ar K V a (8 * 2 ^ h) n f g K2 V2 ∧ ∀ post : (Nat → Int64) → (Nat → Int64) → Int32 → Int64 → Prop, post K2 V2 (nI h) (mv + (nI n).toInt64) → wp_S_spreadPacked K V lh mv (nI a) (nI h) (nI n) post := by
  have hp := n_p6 hh
  generalize hww : 8 * 2 ^ h = w at *
  have key : ∀ i K' V', i ≤ n → (∀ j, j < i → K' (a + j) = f j ∧ V' (a + j) = g j) → (∀ j, i ≤ j → j < n → K' (a + j * w / n) = f j ∧ V' (a + j * w / n) = g j) → (∀ p, i ≤ p → p < w → (∀ j, i ≤ j → j < n → p ≠ j * w / n) → K' (a + p) = NOK) → (∀ q, q < a ∨ a + w ≤ q → K' q = K q ∧ V' q = V q) →
      ∃ K2 V2, Ar K V a w n f g K2 V2 ∧ ∀ post : (Nat → Int64) → (Nat → Int64) → Int32 → Int64 → Prop, post K2 V2 (nI h) (mv + (nI n).toInt64) → wp_S_spreadPacked_L5 (nI a) (nI h) (nI n) post (i + 1) (nI i + (-1)) K' V' lh mv := by
    intro i
    induction i with
    | zero =>
      intro K' V' hi h1 h2 h3 h4
      refine ⟨K', V', ⟨fun j hj => h2 j (by omega) hj, fun p hp2 hq => h3 p (by omega) hp2 (fun j _ hj => hq j hj), h4⟩, fun post hpost => ?_⟩
      rw [wp_S_spreadPacked_L5]
      exact ⟨fun _ => hpost, fun c => absurd (by decide) c⟩
    | succ i ih =>
      intro K' V' hi h1 h2 h3 h4
      have n0 : 0 < n := by omega
      have g1 := tj_ge (i := i) n0 hn
      have g2 := tj_in (i := i) n0 hn (by omega)
      have hiw : i * w ≤ 512 * 512 := Nat.mul_le_mul (by omega) (by omega)
      have enter : ∀ post : (Nat → Int64) → (Nat → Int64) → Int32 → Int64 → Prop, wp_S_shift K' V' (nI (a + i)) (nI (a + i * w / n)) (fun kS_4 vS_5 => wp_S_spreadPacked_L5 (nI a) (nI h) (nI n) post (i + 1) (nI i + (-1)) kS_4 vS_5 lh mv) → wp_S_spreadPacked_L5 (nI a) (nI h) (nI n) post (i + 1 + 1) (nI (i + 1) + (-1)) K' V' lh mv := by
        intro post hsh
        rw [wp_S_spreadPacked_L5, pk_m1]
        refine ⟨fun c => absurd c (nI_pos (by omega)), fun _ => ?_⟩
        refine p_S_windowCells hh ?_
        rw [hww]
        refine ⟨nI_ne0 n0 (by omega), ?_⟩
        rw [nI_add, pk_mul, pk_div (by omega) n0 (by omega), nI_add]
        exact hsh
      by_cases e : i = i * w / n
      · obtain ⟨K2, V2, f1, f2⟩ := ih K' V' (by omega) (fun j hj => h1 j (by omega)) (fun j hj hj2 => by
            rcases Nat.lt_or_ge i j with z | z
            · exact h2 j (by omega) hj2
            · obtain rfl : j = i := by omega
              rw [← e]
              exact h1 j (by omega)) (fun p hp1 hp2 hq => by
            have := hq i (by omega) (by omega)
            exact h3 p (by omega) hp2 (fun j hj hj2 => hq j (by omega) hj2)) h4
        refine ⟨K2, V2, f1, fun post hpost => enter post ?_⟩
        exact p_S_shift (by omega) (by omega) (fun _ => f2 post hpost) (fun z => absurd (by omega) z)
      · obtain ⟨K2, V2, f1, f2⟩ := ih (vp_updL (vp_updL K' (a + i * w / n) (K' (a + i))) (a + i) NOK) (vp_updL (vp_updL V' (a + i * w / n) (V' (a + i))) (a + i) 0) (by omega) (fun j hj => by
            rw [pk_uLn (by omega), pk_uLn (by omega), pk_uLn (by omega), pk_uLn (by omega)]
            exact h1 j (by omega)) (fun j hj hj2 => by
            rcases Nat.lt_or_ge i j with z | z
            · have g3 := tj_lt n0 hn z
              rw [pk_uLn (by omega), pk_uLn (by omega), pk_uLn (by omega), pk_uLn (by omega)]
              exact h2 j (by omega) hj2
            · obtain rfl : j = i := by omega
              rw [pk_uLn (by omega), pk_uLs, pk_uLn (by omega), pk_uLs]
              exact h1 j (by omega)) (fun p hp1 hp2 hq => by
            have g3 := hq i (by omega) (by omega)
            rcases Nat.lt_or_ge i p with z | z
            · rw [pk_uLn (by omega), pk_uLn (by omega)]
              exact h3 p (by omega) hp2 (fun j hj hj2 => hq j (by omega) hj2)
            · obtain rfl : p = i := by omega
              exact pk_uLs) (fun q hq => by
            rw [pk_uLn (by omega), pk_uLn (by omega), pk_uLn (by omega), pk_uLn (by omega)]
            exact h4 q hq)
        refine ⟨K2, V2, f1, fun post hpost => enter post ?_⟩
        exact p_S_shift (by omega) (by omega) (fun z => absurd (by omega) e) (fun _ => f2 post hpost)
  unfold wp_S_spreadPacked
  obtain ⟨K2, V2, f1, f2⟩ := key n K V (Nat.le_refl n) hf (fun j h1 h2 => absurd h2 (by omega)) (fun p h1 h2 _ => he p h1 h2) (fun q _ => ⟨rfl, rfl⟩)
  refine ⟨K2, V2, f1, fun post hpost => ⟨n + 1, ?_⟩⟩
  rw [n_sub1]
  exact f2 post hpost
end
section
/-! The reference's windows: lifting, joining, spreading. -/
theorem nz0 : vp_nar .boolean 0 = 0 := by decide +kernel
theorem nz1 : vp_nar .boolean 1 = 1 := by decide +kernel
theorem p_M_firstOf {x h : Nat} {post : Int32 → Prop} (hx : x < 64) (hh : h ≤ 6) (hp : post (nI (wf x h))) : wp_M_firstOf (nI x) (nI h) post := by
  unfold wp_M_firstOf
  have h1 := n_p6 hh
  have h2 : x / 2 ^ h * 2 ^ h ≤ x := Nat.div_mul_le_self _ _
  rw [n_shr (by omega) (by omega), n_shl (by omega) (by omega), n_lit8, pk_mul]
  have e : x / 2 ^ h * 2 ^ h * 8 = wf x h := by unfold wf; rw [Nat.mul_assoc, Nat.mul_comm (2 ^ h) 8]
  rw [e]
  exact hp
theorem p_M_w {h : Nat} (hh : h ≤ 6) : (8 : Int32) <<< (nI h &&& 31) = nI (8 * 2 ^ h) := by
  have h1 := n_p6 hh
  rw [n_lit8, n_shl (by omega) (by omega)]
theorem p_M_most {t h : Nat} {post : Int32 → Prop} (ht : t ≤ 6) (hh : h ≤ t) (ht1 : 1 ≤ t) (hp : post (nI (mostF t h))) : wp_M_most (nI (8 * 2 ^ t)) (nI h) post := by
  have hm := n_mf ht hh ht1
  unfold wp_M_most
  refine p_M_levels ht ?_
  rw [p_M_w (by omega), n_lit4, pk_mul, pk_sub (by omega), pk_mul, pk_div (by omega) (by omega) (by omega)]
  exact ⟨nI_ne0 (by omega) (by omega), hp⟩
theorem p_M_fewest {t h : Nat} {post : Int32 → Prop} (ht : t ≤ 6) (hh : h ≤ t) (ht1 : 1 ≤ t) (hp : post (nI (fewF t h))) : wp_M_fewest (nI (8 * 2 ^ t)) (nI h) post := by
  have hm := n_mf ht hh ht1
  unfold wp_M_fewest
  refine p_M_levels ht ?_
  rw [p_M_w (by omega), n_lit8, pk_mul, nI_add, pk_mul, nI_add, n_lit1, pk_sub (by omega), pk_div (by omega) (by omega) (by omega)]
  exact ⟨nI_ne0 (by omega) (by omega), hp⟩
theorem p_M_lift {K V : Nat → Int64} {F : Nat → Int32} {J G wk wv : Nat → Int64} {a w : Nat} (hR : Rm K F J) (hV : ∀ i, i < 512 → K i ≠ NOK → G i = V i) (hw : a + w ≤ 512) :
    ∃ F2 wk2 wv2, (∀ q, a ≤ q → q < a + w → F2 q = 0) ∧ (∀ q, q < a ∨ a + w ≤ q → F2 q = F q) ∧ (∀ j, j < w → K (a + j) ≠ NOK → wk2 (cnt K a j) = K (a + j) ∧ wv2 (cnt K a j) = V (a + j)) ∧
      ∀ post : (Nat → Int32) → Int32 → (Nat → Int64) → (Nat → Int64) → Prop, post F2 (nI (cnt K a w)) wk2 wv2 → wp_M_lift F J G (nI 0) wk wv (nI a) (nI w) post := by
  have key : ∀ k i F' wk' wv', i + k = w → (∀ q, a ≤ q → q < a + i → F' q = 0) → (∀ q, q < a ∨ a + i ≤ q → F' q = F q) → (∀ j, j < i → K (a + j) ≠ NOK → wk' (cnt K a j) = K (a + j) ∧ wv' (cnt K a j) = V (a + j)) →
      ∃ F2 wk2 wv2, (∀ q, a ≤ q → q < a + w → F2 q = 0) ∧ (∀ q, q < a ∨ a + w ≤ q → F2 q = F q) ∧ (∀ j, j < w → K (a + j) ≠ NOK → wk2 (cnt K a j) = K (a + j) ∧ wv2 (cnt K a j) = V (a + j)) ∧
        ∀ post : (Nat → Int32) → Int32 → (Nat → Int64) → (Nat → Int64) → Prop, post F2 (nI (cnt K a w)) wk2 wv2 → wp_M_lift_L2 J G (nI a) (nI w) post (k + 1) (nI (a + i)) F' (nI (cnt K a i)) wk' wv' := by
    intro k
    induction k with
    | zero =>
      intro i F' wk' wv' e h1 h2 h3
      obtain rfl : i = w := by omega
      refine ⟨F', wk', wv', h1, h2, h3, fun post h => ?_⟩
      rw [wp_M_lift_L2, nI_add]
      exact ⟨fun _ => h, fun c => absurd (nI_le (Nat.le_refl _) (by omega)) c⟩
    | succ k ih =>
      intro i F' wk' wv' e h1 h2 h3
      have hl := cnt_le K a i
      obtain ⟨r1, r2⟩ := hR (a + i) (by omega)
      have e1 := h2 (a + i) (by omega)
      by_cases c : F (a + i) = 0
      · have c1 := r1.mp c
        obtain ⟨F2, wk2, wv2, f1, f2, f3, f4⟩ := ih (i + 1) F' wk' wv' (by omega) (fun q q1 q2 => by
            rcases Nat.lt_or_ge q (a + i) with z | z
            · exact h1 q q1 z
            · obtain rfl : q = a + i := by omega
              rw [e1]; exact c) (fun q hq => h2 q (by omega)) (fun j hj hf => by
            have : j ≠ i := fun z => hf (by rw [z]; exact c1)
            exact h3 j (by omega) hf)
        refine ⟨F2, wk2, wv2, f1, f2, f3, fun post h => ?_⟩
        have this := f4 post h
        rw [cnt_s, if_pos c1] at this
        rw [wp_M_lift_L2, nI_add, nI_clamp (show a + i < 2 ^ 31 by omega), nI_1, e1]
        exact ⟨fun c => absurd c (nI_ge (by omega) (by omega)), fun _ => ⟨vp_in_nI (by omega) (by decide), fun _ => this, fun z => absurd c z⟩⟩
      · have c1 : K (a + i) ≠ NOK := fun q => c (r1.mpr q)
        obtain ⟨F2, wk2, wv2, f1, f2, f3, f4⟩ := ih (i + 1) (upd F' (a + i) 0) (vp_updL wk' (cnt K a i) (J (a + i))) (vp_updL wv' (cnt K a i) (G (a + i))) (by omega) (fun q q1 q2 => by
            rcases Nat.lt_or_ge q (a + i) with z | z
            · rw [pk_un (by omega)]; exact h1 q q1 z
            · obtain rfl : q = a + i := by omega
              exact pk_us) (fun q hq => by
            rw [pk_un (by omega)]; exact h2 q (by omega)) (fun j hj hf => by
            rcases Nat.lt_or_ge j i with z | z
            · have hc := cnt_full hf z
              rw [pk_uLn (by omega), pk_uLn (by omega)]
              exact h3 j z hf
            · obtain rfl : j = i := by omega
              rw [pk_uLs, pk_uLs, r2 c1, hV _ (by omega) c1]
              exact ⟨rfl, rfl⟩)
        refine ⟨F2, wk2, wv2, f1, f2, f3, fun post h => ?_⟩
        have this := f4 post h
        rw [cnt_s, if_neg c1] at this
        rw [wp_M_lift_L2, nI_add, nI_clamp (show a + i < 2 ^ 31 by omega), nI_clamp (show cnt K a i < 2 ^ 31 by omega), nI_1, nI_1, e1, nz0]
        exact ⟨fun c => absurd c (nI_ge (by omega) (by omega)), fun _ => ⟨vp_in_nI (by omega) (by decide), fun z => absurd z c, fun _ => ⟨vp_in_nI (by omega) (by decide), this⟩⟩⟩
  unfold wp_M_lift
  obtain ⟨F2, wk2, wv2, f1, f2, f3, f4⟩ := key w 0 F wk wv (by omega) (fun q h1 h2 => absurd h2 (by omega)) (fun q _ => rfl) (fun j hj => absurd hj (by omega))
  exact ⟨F2, wk2, wv2, f1, f2, f3, fun post h => ⟨_, f4 post h⟩⟩
theorem p_M_join {wk wv : Nat → Int64} {n : Nat} {key v : Int64} (hn : n ≤ 512) :
    ∃ wk2 wv2, (∀ j, j ≤ n → wk2 j = kI wk key (ip wk key n) j ∧ wv2 j = kI wv v (ip wk key n) j) ∧ ∀ post : Int32 → (Nat → Int64) → (Nat → Int64) → Prop, post (nI (n + 1)) wk2 wv2 → wp_M_join (nI n) wk wv key v post := by
  have fin : ∀ c wk' wv', c ≤ n → ip wk key n = c → (∀ j, j < c → wk' j = wk j ∧ wv' j = wv j) → (∀ j, c ≤ j → j < n → wk' (j + 1) = wk j ∧ wv' (j + 1) = wv j) → ∀ j, j ≤ n → vp_updL wk' c key j = kI wk key (ip wk key n) j ∧ vp_updL wv' c v j = kI wv v (ip wk key n) j := by
    intro c wk' wv' hc hip h1 h2 j hj
    rw [hip]
    unfold kI
    rcases Nat.lt_trichotomy j c with q | q | q
    · rw [if_pos q, if_pos q, pk_uLn (by omega), pk_uLn (by omega)]
      exact h1 j q
    · rw [if_neg (show ¬ j < c by omega), if_pos q, if_neg (show ¬ j < c by omega), if_pos q, q, pk_uLs, pk_uLs]
      exact ⟨rfl, rfl⟩
    · rw [if_neg (by omega), if_neg (by omega), if_neg (by omega), if_neg (by omega), pk_uLn (by omega), pk_uLn (by omega)]
      have := h2 (j - 1) (by omega) (by omega)
      rw [show j - 1 + 1 = j by omega] at this
      exact this
  have key2 : ∀ c wk' wv', c ≤ n → ip wk key n = ip wk key c → (∀ j, j < c → wk' j = wk j ∧ wv' j = wv j) → (∀ j, c ≤ j → j < n → wk' (j + 1) = wk j ∧ wv' (j + 1) = wv j) →
      ∃ wk2 wv2, (∀ j, j ≤ n → wk2 j = kI wk key (ip wk key n) j ∧ wv2 j = kI wv v (ip wk key n) j) ∧ ∀ post : Int32 → (Nat → Int64) → (Nat → Int64) → Prop, post (nI (n + 1)) wk2 wv2 → wp_M_join_L6 key v post (c + 1) (nI c) (nI n) wk' wv' := by
    intro c
    induction c with
    | zero =>
      intro wk' wv' hc hip h1 h2
      refine ⟨_, _, fin 0 wk' wv' hc hip h1 h2, fun post h => ?_⟩
      rw [wp_M_join_L6, nI_clamp (show 0 < 2 ^ 31 by decide), nI_1]
      exact ⟨fun _ => ⟨vp_in_nI (by decide) (by decide), h⟩, fun q => absurd (nI_le (a := 0) (b := 0) (by omega) (by omega)) q⟩
    | succ c ih =>
      intro wk' wv' hc hip h1 h2
      obtain ⟨e1, e2⟩ := h1 c (by omega)
      rw [ip_s] at hip
      by_cases q : wk c ≤ key
      · rw [if_pos q] at hip
        refine ⟨_, _, fin (c + 1) wk' wv' hc hip h1 h2, fun post h => ?_⟩
        rw [wp_M_join_L6, nI_pred c, nI_clamp (show c + 1 < 2 ^ 31 by omega), nI_clamp (show c < 2 ^ 31 by omega), e1, nI_1]
        exact ⟨fun q => absurd q (nI_ge (a := 0) (by omega) (by omega)), fun _ => ⟨vp_in_nI (by omega) (by decide), fun _ => ⟨vp_in_nI (by omega) (by decide), h⟩, fun z => absurd q z⟩⟩
      · rw [if_neg q] at hip
        obtain ⟨wk2, wv2, f1, f2⟩ := ih (vp_updL wk' (c + 1) (wk c)) (vp_updL wv' (c + 1) (wv c)) (by omega) hip (fun j hj => by
            rw [pk_uLn (by omega), pk_uLn (by omega)]
            exact h1 j (by omega)) (fun j hj hj2 => by
            rcases Nat.lt_or_ge c j with z | z
            · rw [pk_uLn (by omega), pk_uLn (by omega)]
              exact h2 j (by omega) hj2
            · obtain rfl : j = c := by omega
              rw [pk_uLs, pk_uLs]
              exact ⟨rfl, rfl⟩)
        refine ⟨wk2, wv2, f1, fun post h => ?_⟩
        rw [wp_M_join_L6, nI_pred c, nI_clamp (show c + 1 < 2 ^ 31 by omega), nI_clamp (show c < 2 ^ 31 by omega), e1, e2, pk_m1 c]
        exact ⟨fun q => absurd q (nI_ge (a := 0) (by omega) (by omega)), fun _ => ⟨vp_in_nI (by omega) (by decide), fun z => absurd z q, fun _ => ⟨vp_in_nI (by omega) (by decide), f2 post h⟩⟩⟩
  unfold wp_M_join
  obtain ⟨wk2, wv2, f1, f2⟩ := key2 n wk wv (Nat.le_refl n) rfl (fun j _ => ⟨rfl, rfl⟩) (fun j h1 h2 => absurd h2 (by omega))
  exact ⟨wk2, wv2, f1, fun post h => ⟨n + 1, f2 post h⟩⟩
/-- the reference's row wk, wv of n is spread over the w cells at a -/
def ArM (F0 : Nat → Int32) (J0 G0 : Nat → Int64) (a w n : Nat) (f g : Nat → Int64) (F' : Nat → Int32) (J' G' : Nat → Int64) : Prop :=
  (∀ j, j < n → F' (a + j * w / n) = 1 ∧ J' (a + j * w / n) = f j ∧ G' (a + j * w / n) = g j) ∧ (∀ p, p < w → (∀ j, j < n → p ≠ j * w / n) → F' (a + p) = F0 (a + p)) ∧ (∀ q, q < a ∨ a + w ≤ q → F' q = F0 q ∧ J' q = J0 q ∧ G' q = G0 q)
theorem p_M_spread {F : Nat → Int32} {J G wk wv : Nat → Int64} {wi : Int32} {mo : Int64} {a h n : Nat} (hh : h ≤ 6) (hw : a + 8 * 2 ^ h ≤ 512) (hn : n ≤ 8 * 2 ^ h) :
    ∃ F2 J2 G2, ArM F J G a (8 * 2 ^ h) n wk wv F2 J2 G2 ∧ ∀ post : (Nat → Int32) → (Nat → Int64) → (Nat → Int64) → Int32 → Int64 → Int32 → Prop, post F2 J2 G2 (nI h) (mo + (nI n).toInt64) (nI 0) → wp_M_spread F J G wi mo (nI n) wk wv (nI a) (nI h) post := by
  have hp := n_p6 hh
  unfold wp_M_spread
  rw [p_M_w hh]
  generalize hww : 8 * 2 ^ h = w at *
  have key : ∀ k i F' J' G', i + k = n → (∀ j, j < i → F' (a + j * w / n) = 1 ∧ J' (a + j * w / n) = wk j ∧ G' (a + j * w / n) = wv j) → (∀ p, p < w → (∀ j, j < i → p ≠ j * w / n) → F' (a + p) = F (a + p)) → (∀ q, q < a ∨ a + w ≤ q → F' q = F q ∧ J' q = J q ∧ G' q = G q) →
      ∃ F2 J2 G2, ArM F J G a w n wk wv F2 J2 G2 ∧ ∀ post : (Nat → Int32) → (Nat → Int64) → (Nat → Int64) → Int32 → Int64 → Int32 → Prop, post F2 J2 G2 (nI h) (mo + (nI n).toInt64) (nI 0) → wp_M_spread_L8 wk wv (nI a) (nI h) (nI w) post (k + 1) (nI i) F' J' G' wi mo (nI n) := by
    intro k
    induction k with
    | zero =>
      intro i F' J' G' e h1 h2 h3
      obtain rfl : i = n := by omega
      refine ⟨F', J', G', ⟨h1, h2, h3⟩, fun post hpost => ?_⟩
      rw [wp_M_spread_L8]
      exact ⟨fun _ => hpost, fun c => absurd (nI_le (Nat.le_refl _) (by omega)) c⟩
    | succ k ih =>
      intro i F' J' G' e h1 h2 h3
      have n0 : 0 < n := by omega
      have g2 := tj_in (i := i) n0 hn (by omega)
      have g0 := Nat.le_add_right a (i * w / n)
      have hiw : i * w ≤ 512 * 512 := Nat.mul_le_mul (by omega) (by omega)
      obtain ⟨F2, J2, G2, f1, f2⟩ := ih (i + 1) (upd F' (a + i * w / n) 1) (vp_updL J' (a + i * w / n) (wk i)) (vp_updL G' (a + i * w / n) (wv i)) (by omega) (fun j hj => by
          rcases Nat.lt_or_ge j i with z | z
          · have g3 := tj_lt n0 hn z
            rw [pk_un (by omega), pk_uLn (by omega), pk_uLn (by omega)]
            exact h1 j z
          · obtain rfl : j = i := by omega
            rw [pk_us, pk_uLs, pk_uLs]
            exact ⟨rfl, rfl, rfl⟩) (fun p hp1 hq => by
          have g3 := hq i (by omega)
          rw [pk_un (by omega)]
          exact h2 p hp1 (fun j hj => hq j (by omega))) (fun q hq => by
          rw [pk_un (by omega), pk_uLn (by omega), pk_uLn (by omega)]
          exact h3 q hq)
      refine ⟨F2, J2, G2, f1, fun post hpost => ?_⟩
      rw [wp_M_spread_L8, pk_mul, pk_div (by omega) n0 (by omega), nI_add, nI_clamp (show a + i * w / n < 2 ^ 31 by omega), nI_clamp (show i < 2 ^ 31 by omega), nI_1, nz1]
      exact ⟨fun c => absurd c (nI_ge (by omega) (by omega)), fun _ => ⟨nI_ne0 n0 (by omega), vp_in_nI (by omega) (by decide), vp_in_nI (by omega) (by decide), f2 post hpost⟩⟩
  obtain ⟨F2, J2, G2, f1, f2⟩ := key n 0 F J G (by omega) (fun j hj => absurd hj (by omega)) (fun p _ _ => rfl) (fun q _ => ⟨rfl, rfl, rfl⟩)
  exact ⟨F2, J2, G2, f1, fun post hpost => ⟨_, f2 post hpost⟩⟩
end
section
/-! Both sides of a change: the same row, spread the same way. -/
theorem cnt_surj {K : Nat → Int64} {a : Nat} : ∀ {w j : Nat}, j < cnt K a w → ∃ i, i < w ∧ K (a + i) ≠ NOK ∧ cnt K a i = j
  | 0, j, h => absurd h (by rw [cnt]; omega)
  | w + 1, j, h => by
    rw [cnt_s] at h
    by_cases c : K (a + w) = NOK
    · rw [if_pos c] at h
      obtain ⟨i, h1, h2, h3⟩ := cnt_surj h
      exact ⟨i, by omega, h2, h3⟩
    · rw [if_neg c] at h
      rcases Nat.lt_or_ge j (cnt K a w) with q | q
      · obtain ⟨i, h1, h2, h3⟩ := cnt_surj q
        exact ⟨i, by omega, h2, h3⟩
      · exact ⟨w, by omega, c, by omega⟩
/-- the j-th full cell's X, of the w cells at a -/
def row (K X : Nat → Int64) (a : Nat) : Nat → Nat → Int64
  | 0, _ => 0
  | w + 1, j => if K (a + w) ≠ NOK ∧ j = cnt K a w then X (a + w) else row K X a w j
theorem row_s (K X : Nat → Int64) (a w j : Nat) : row K X a (w + 1) j = if K (a + w) ≠ NOK ∧ j = cnt K a w then X (a + w) else row K X a w j := rfl
theorem row_at {K X : Nat → Int64} {a : Nat} : ∀ {w i : Nat}, i < w → K (a + i) ≠ NOK → row K X a w (cnt K a i) = X (a + i)
  | 0, i, h, _ => absurd h (by omega)
  | w + 1, i, h, hf => by
    rw [row_s]
    rcases Nat.lt_or_ge i w with q | q
    · have := cnt_full hf q
      rw [if_neg (fun z => absurd z.2 (by omega))]
      exact row_at q hf
    · obtain rfl : i = w := by omega
      rw [if_pos ⟨hf, rfl⟩]
theorem row_of {K X f : Nat → Int64} {a w : Nat} (h : ∀ i, i < w → K (a + i) ≠ NOK → f (cnt K a i) = X (a + i)) : ∀ j, j < cnt K a w → f j = row K X a w j := by
  intro j hj
  obtain ⟨i, h1, h2, rfl⟩ := cnt_surj hj
  rw [h i h1 h2, row_at h1 h2]
theorem ip_congr {f f' : Nat → Int64} {key : Int64} : ∀ {n : Nat}, (∀ j, j < n → f j = f' j) → ip f key n = ip f' key n
  | 0, _ => rfl
  | n + 1, h => by rw [ip_s, ip_s, h n (by omega), ip_congr (fun j hj => h j (by omega))]
theorem kI_congr {f f' : Nat → Int64} {key : Int64} {p n j : Nat} (h : ∀ j, j < n → f j = f' j) (hp : p ≤ n) (hj : j ≤ n) : kI f key p j = kI f' key p j := by
  unfold kI
  by_cases c : j < p
  · rw [if_pos c, if_pos c]; exact h j (by omega)
  · rw [if_neg c, if_neg c]
    by_cases c2 : j = p
    · rw [if_pos c2, if_pos c2]
    · rw [if_neg c2, if_neg c2]; exact h (j - 1) (by omega)
theorem ip_lo {f : Nat → Int64} {key : Int64} : ∀ {n : Nat}, ∀ j, ip f key n = j + 1 → f j ≤ key
  | 0, j, h => absurd h (by rw [ip]; omega)
  | n + 1, j, h => by
    rw [ip_s] at h
    by_cases c : f n ≤ key
    · rw [if_pos c] at h
      obtain rfl : n = j := by omega
      exact c
    · rw [if_neg c] at h
      exact ip_lo j h
theorem ip_hi {f : Nat → Int64} {key : Int64} : ∀ {n : Nat}, ∀ j, ip f key n ≤ j → j < n → key < f j
  | 0, j, _, h => absurd h (by omega)
  | n + 1, j, h1, h2 => by
    rw [ip_s] at h1
    by_cases c : f n ≤ key
    · rw [if_pos c] at h1; omega
    · rw [if_neg c] at h1
      rcases Nat.lt_or_ge j n with q | q
      · exact ip_hi j h1 q
      · obtain rfl : j = n := by omega
        exact l_nle.mp c
/-- pack, join, spread: the store -/
theorem S_join {K V : Nat → Int64} {a h : Nat} {key v : Int64} {lh : Int32} {mv : Int64} (hh : h ≤ 6) (hw : a + 8 * 2 ^ h ≤ 512) (hn : cnt K a (8 * 2 ^ h) < 8 * 2 ^ h) :
    ∃ K2 V2, Ar K V a (8 * 2 ^ h) (cnt K a (8 * 2 ^ h) + 1) (kI (row K K a (8 * 2 ^ h)) key (ip (row K K a (8 * 2 ^ h)) key (cnt K a (8 * 2 ^ h)))) (kI (row K V a (8 * 2 ^ h)) v (ip (row K K a (8 * 2 ^ h)) key (cnt K a (8 * 2 ^ h)))) K2 V2 ∧
      ∀ post : (Nat → Int64) → (Nat → Int64) → Int32 → Int64 → Prop, post K2 V2 (nI h) (mv + (nI (cnt K a (8 * 2 ^ h) + 1)).toInt64) →
        wp_S_pack K V (nI a) (nI (8 * 2 ^ h)) (fun r K1 V1 => wp_S_insertPacked K1 V1 (nI a) r key v (fun K2 V2 => wp_S_spreadPacked K2 V2 lh mv (nI a) (nI h) (r + 1) post)) := by
  have h6 := n_p6 hh
  obtain ⟨K1, V1, ⟨p1, p2, p3⟩, hpk⟩ := p_S_pack (K := K) (V := V) hw
  have hf1 : ∀ j, j < cnt K a (8 * 2 ^ h) → K1 (a + j) = row K K a (8 * 2 ^ h) j := row_of (f := fun j => K1 (a + j)) (fun i hi hf => (p1 i hi hf).1)
  have hg1 : ∀ j, j < cnt K a (8 * 2 ^ h) → V1 (a + j) = row K V a (8 * 2 ^ h) j := row_of (f := fun j => V1 (a + j)) (fun i hi hf => (p1 i hi hf).2)
  have e1 : ip (fun i => K1 (a + i)) key (cnt K a (8 * 2 ^ h)) = ip (row K K a (8 * 2 ^ h)) key (cnt K a (8 * 2 ^ h)) := ip_congr hf1
  have hip := ip_le (row K K a (8 * 2 ^ h)) key (cnt K a (8 * 2 ^ h))
  obtain ⟨K2, V2, q1, q2, hin⟩ := p_S_insertPacked (K := K1) (V := V1) (a := a) (n := cnt K a (8 * 2 ^ h)) (key := key) (v := v) (by omega)
  rw [e1] at q1
  have q3 : ∀ j, j < cnt K a (8 * 2 ^ h) + 1 → K2 (a + j) = kI (row K K a (8 * 2 ^ h)) key (ip (row K K a (8 * 2 ^ h)) key (cnt K a (8 * 2 ^ h))) j ∧ V2 (a + j) = kI (row K V a (8 * 2 ^ h)) v (ip (row K K a (8 * 2 ^ h)) key (cnt K a (8 * 2 ^ h))) j := by
    intro j hj
    obtain ⟨z1, z2⟩ := q1 j (by omega)
    rw [z1, z2]
    exact ⟨kI_congr hf1 hip (by omega), kI_congr hg1 hip (by omega)⟩
  obtain ⟨K3, V3, hA, hsp⟩ := p_S_spreadPacked (K := K2) (V := V2) (lh := lh) (mv := mv) (a := a) (n := cnt K a (8 * 2 ^ h) + 1) hh hw (by omega) q3 (fun p hp1 hp2 => by
    rw [(q2 (a + p) (by omega)).1]
    exact p2 p (by omega) hp2)
  refine ⟨K3, V3, ⟨hA.1, hA.2.1, fun q hq => ?_⟩, fun post hp => ?_⟩
  · obtain ⟨z1, z2⟩ := hA.2.2 q hq
    obtain ⟨z3, z4⟩ := q2 q (by omega)
    obtain ⟨z5, z6⟩ := p3 q hq
    exact ⟨z1.trans (z3.trans z5), z2.trans (z4.trans z6)⟩
  · refine hpk _ (hin _ ?_)
    rw [nI_1]
    exact hsp post hp
/-- pack, spread over a window (the same, or half of it): the store -/
theorem S_again {K V : Nat → Int64} {a w h : Nat} {lh : Int32} {mv : Int64} (hh : h ≤ 6) (hw : a + w ≤ 512) (hw2 : 8 * 2 ^ h ≤ w) (hn : cnt K a w ≤ 8 * 2 ^ h) :
    ∃ K2 V2, (∀ j, j < cnt K a w → K2 (a + j * (8 * 2 ^ h) / cnt K a w) = row K K a w j ∧ V2 (a + j * (8 * 2 ^ h) / cnt K a w) = row K V a w j) ∧ (∀ p, p < w → (∀ j, j < cnt K a w → p ≠ j * (8 * 2 ^ h) / cnt K a w) → K2 (a + p) = NOK) ∧ (∀ q, q < a ∨ a + w ≤ q → K2 q = K q ∧ V2 q = V q) ∧
      ∀ post : (Nat → Int64) → (Nat → Int64) → Int32 → Int64 → Prop, post K2 V2 (nI h) (mv + (nI (cnt K a w)).toInt64) → wp_S_pack K V (nI a) (nI w) (fun r K1 V1 => wp_S_spreadPacked K1 V1 lh mv (nI a) (nI h) r post) := by
  have h6 := n_p6 hh
  obtain ⟨K1, V1, ⟨p1, p2, p3⟩, hpk⟩ := p_S_pack (K := K) (V := V) hw
  have hf1 : ∀ j, j < cnt K a w → K1 (a + j) = row K K a w j ∧ V1 (a + j) = row K V a w j := fun j hj =>
    ⟨row_of (f := fun j => K1 (a + j)) (fun i hi hf => (p1 i hi hf).1) j hj, row_of (f := fun j => V1 (a + j)) (fun i hi hf => (p1 i hi hf).2) j hj⟩
  obtain ⟨K3, V3, hA, hsp⟩ := p_S_spreadPacked (K := K1) (V := V1) (lh := lh) (mv := mv) (a := a) (n := cnt K a w) hh (by omega) hn hf1 (fun p hp1 hp2 => p2 p hp1 (by omega))
  refine ⟨K3, V3, hA.1, fun p hp1 hq => ?_, fun q hq => ?_, fun post hp => hpk _ (hsp post hp)⟩
  · rcases Nat.lt_or_ge p (8 * 2 ^ h) with z | z
    · exact hA.2.1 p z hq
    · rw [(hA.2.2 (a + p) (by omega)).1]
      exact p2 p (by omega) hp1
  · obtain ⟨z1, z2⟩ := hA.2.2 q (by omega)
    obtain ⟨z5, z6⟩ := p3 q hq
    exact ⟨z1.trans z5, z2.trans z6⟩
/-- lift (w cells), join, spread (over 8 * 2^h): the reference -/
theorem M_join {K V : Nat → Int64} {F : Nat → Int32} {J G wk wv : Nat → Int64} {a w h : Nat} {key v : Int64} {wi : Int32} {mo : Int64} (hR : Rm K F J) (hV : ∀ i, i < 512 → K i ≠ NOK → G i = V i)
    (hh : h ≤ 6) (hw : a + w ≤ 512) (hw2 : a + 8 * 2 ^ h ≤ 512) (hn : cnt K a w < 8 * 2 ^ h) :
    ∃ F1 F2 J2 G2 wk2 wv2, (∀ q, a ≤ q → q < a + w → F1 q = 0) ∧ (∀ q, q < a ∨ a + w ≤ q → F1 q = F q) ∧ ArM F1 J G a (8 * 2 ^ h) (cnt K a w + 1) (kI (row K K a w) key (ip (row K K a w) key (cnt K a w))) (kI (row K V a w) v (ip (row K K a w) key (cnt K a w))) F2 J2 G2 ∧
      ∀ post : (Nat → Int32) → (Nat → Int64) → (Nat → Int64) → Int32 → Int64 → Int32 → (Nat → Int64) → (Nat → Int64) → Prop, post F2 J2 G2 (nI h) (mo + (nI (cnt K a w + 1)).toInt64) (nI 0) wk2 wv2 →
        wp_M_lift F J G (nI 0) wk wv (nI a) (nI w) (fun F1 wa1 wk1 wv1 => wp_M_join wa1 wk1 wv1 key v (fun wa2 wk2 wv2 => wp_M_spread F1 J G wi mo wa2 wk2 wv2 (nI a) (nI h) (fun F' J' G' wi' mo' wa' => post F' J' G' wi' mo' wa' wk2 wv2))) := by
  have hl := cnt_le K a w
  obtain ⟨F1, wk1, wv1, q1, q2, q3, hli⟩ := p_M_lift (wk := wk) (wv := wv) hR hV hw
  have hf1 : ∀ j, j < cnt K a w → wk1 j = row K K a w j := row_of (fun i hi hf => (q3 i hi hf).1)
  have hg1 : ∀ j, j < cnt K a w → wv1 j = row K V a w j := row_of (fun i hi hf => (q3 i hi hf).2)
  have e1 : ip wk1 key (cnt K a w) = ip (row K K a w) key (cnt K a w) := ip_congr hf1
  have hip := ip_le (row K K a w) key (cnt K a w)
  obtain ⟨wk2, wv2, q4, hjo⟩ := p_M_join (wk := wk1) (wv := wv1) (n := cnt K a w) (key := key) (v := v) (by omega)
  rw [e1] at q4
  obtain ⟨F2, J2, G2, hA, hsp⟩ := p_M_spread (F := F1) (J := J) (G := G) (wk := wk2) (wv := wv2) (wi := wi) (mo := mo) (a := a) (n := cnt K a w + 1) hh hw2 (by omega)
  refine ⟨F1, F2, J2, G2, wk2, wv2, q1, q2, ⟨fun j hj => ?_, hA.2.1, hA.2.2⟩, fun post hp => hli _ (hjo _ (hsp _ hp))⟩
  obtain ⟨z1, z2, z3⟩ := hA.1 j hj
  obtain ⟨z4, z5⟩ := q4 j (by omega)
  refine ⟨z1, ?_, ?_⟩
  · rw [z2, z4]; exact kI_congr hf1 hip (by omega)
  · rw [z3, z5]; exact kI_congr hg1 hip (by omega)
theorem M_again {K V : Nat → Int64} {F : Nat → Int32} {J G wk wv : Nat → Int64} {a w h : Nat} {wi : Int32} {mo : Int64} (hR : Rm K F J) (hV : ∀ i, i < 512 → K i ≠ NOK → G i = V i)
    (hh : h ≤ 6) (hw : a + w ≤ 512) (hw2 : a + 8 * 2 ^ h ≤ 512) (hn : cnt K a w ≤ 8 * 2 ^ h) :
    ∃ F1 F2 J2 G2 wk2 wv2, (∀ q, a ≤ q → q < a + w → F1 q = 0) ∧ (∀ q, q < a ∨ a + w ≤ q → F1 q = F q) ∧ ArM F1 J G a (8 * 2 ^ h) (cnt K a w) (row K K a w) (row K V a w) F2 J2 G2 ∧
      ∀ post : (Nat → Int32) → (Nat → Int64) → (Nat → Int64) → Int32 → Int64 → Int32 → (Nat → Int64) → (Nat → Int64) → Prop, post F2 J2 G2 (nI h) (mo + (nI (cnt K a w)).toInt64) (nI 0) wk2 wv2 →
        wp_M_lift F J G (nI 0) wk wv (nI a) (nI w) (fun F1 wa1 wk1 wv1 => wp_M_spread F1 J G wi mo wa1 wk1 wv1 (nI a) (nI h) (fun F' J' G' wi' mo' wa' => post F' J' G' wi' mo' wa' wk1 wv1)) := by
  have hl := cnt_le K a w
  obtain ⟨F1, wk1, wv1, q1, q2, q3, hli⟩ := p_M_lift (wk := wk) (wv := wv) hR hV hw
  have hf1 : ∀ j, j < cnt K a w → wk1 j = row K K a w j := row_of (fun i hi hf => (q3 i hi hf).1)
  have hg1 : ∀ j, j < cnt K a w → wv1 j = row K V a w j := row_of (fun i hi hf => (q3 i hi hf).2)
  obtain ⟨F2, J2, G2, hA, hsp⟩ := p_M_spread (F := F1) (J := J) (G := G) (wk := wk1) (wv := wv1) (wi := wi) (mo := mo) (a := a) (n := cnt K a w) hh hw2 (by omega)
  refine ⟨F1, F2, J2, G2, wk1, wv1, q1, q2, ⟨fun j hj => ?_, hA.2.1, hA.2.2⟩, fun post hp => hli _ (hsp _ hp)⟩
  obtain ⟨z1, z2, z3⟩ := hA.1 j hj
  exact ⟨z1, z2.trans (hf1 j hj), z3.trans (hg1 j hj)⟩
/-- the two sides agree behind it: w cells at a were taken out, 8 * 2^h = W of them are laid anew -/
theorem tie {K V K' V' : Nat → Int64} {F F1 F' : Nat → Int32} {J G J' G' : Nat → Int64} {a w W1 n : Nat} {f g : Nat → Int64} (hR : Rm K F J) (hV : ∀ i, i < 512 → K i ≠ NOK → G i = V i) (hfn : ∀ j, j < n → f j ≠ NOK) (hn : 0 < n → n ≤ W1)
    (k1 : ∀ j, j < n → K' (a + j * W1 / n) = f j ∧ V' (a + j * W1 / n) = g j) (k2 : ∀ p, p < w ∨ p < W1 → (∀ j, j < n → p ≠ j * W1 / n) → K' (a + p) = NOK) (k3 : ∀ q, q < a ∨ (a + w ≤ q ∧ a + W1 ≤ q) → K' q = K q ∧ V' q = V q)
    (m1 : ∀ q, a ≤ q → q < a + w → F1 q = 0) (m2 : ∀ q, q < a ∨ a + w ≤ q → F1 q = F q) (hout : ∀ q, a + w ≤ q → q < a + W1 → F q = 0) (m3 : ArM F1 J G a W1 n f g F' J' G') :
    Rm K' F' J' ∧ (∀ i, i < 512 → K' i ≠ NOK → G' i = V' i) := by
  obtain ⟨a1, a2, a3⟩ := m3
  have main : ∀ i, i < 512 → ((F' i = 0 ↔ K' i = NOK) ∧ (K' i ≠ NOK → J' i = K' i)) ∧ (K' i ≠ NOK → G' i = V' i) := by
    intro i hi
    by_cases c : i < a ∨ (a + w ≤ i ∧ a + W1 ≤ i)
    · obtain ⟨z1, z2⟩ := k3 i c
      obtain ⟨y1, y2, y3⟩ := a3 i (by omega)
      have y4 := m2 i (by omega)
      obtain ⟨r1, r2⟩ := hR i hi
      rw [z1, z2, y1, y2, y3, y4]
      exact ⟨⟨r1, r2⟩, hV i hi⟩
    · obtain ⟨p, rfl⟩ : ∃ p, i = a + p := ⟨i - a, by omega⟩
      by_cases d : ∃ j, j < n ∧ p = j * W1 / n
      · obtain ⟨j, hj, rfl⟩ := d
        obtain ⟨z1, z2⟩ := k1 j hj
        obtain ⟨y1, y2, y3⟩ := a1 j hj
        rw [z1, z2, y1, y2, y3]
        exact ⟨⟨⟨fun q => absurd q (by decide), fun q => absurd q (hfn j hj)⟩, fun _ => rfl⟩, fun _ => rfl⟩
      · have d2 : ∀ j, j < n → p ≠ j * W1 / n := fun j hj q => d ⟨j, hj, q⟩
        have z1 := k2 p (by omega) d2
        rw [z1]
        refine ⟨⟨⟨fun _ => rfl, fun _ => ?_⟩, fun q => absurd rfl q⟩, fun q => absurd rfl q⟩
        rcases Nat.lt_or_ge p W1 with e | e
        · rw [a2 p e d2]
          rcases Nat.lt_or_ge p w with e2 | e2
          · exact m1 _ (by omega) (by omega)
          · rw [m2 _ (by omega)]
            exact hout _ (by omega) (by omega)
        · rw [(a3 (a + p) (by omega)).1]
          exact m1 _ (by omega) (by omega)
  exact ⟨fun i hi => (main i hi).1, fun i hi => (main i hi).2⟩
/-- the spread row rises, and lies between what is before and behind: all rises -/
theorem srt_ar {K K' : Nat → Int64} {a w W1 n : Nat} {f : Nat → Int64} (hs : Srt K) (hn : 0 < n → n ≤ W1) (hf : ∀ i j, i < j → j < n → f i < f j)
    (k1 : ∀ j, j < n → K' (a + j * W1 / n) = f j) (k2 : ∀ p, p < w ∨ p < W1 → (∀ j, j < n → p ≠ j * W1 / n) → K' (a + p) = NOK) (k3 : ∀ q, q < a ∨ (a + w ≤ q ∧ a + W1 ≤ q) → K' q = K q)
    (b1 : ∀ q j, q < a → K q ≠ NOK → j < n → K q < f j) (b2 : ∀ q j, a + w ≤ q → q < 512 → K q ≠ NOK → j < n → f j < K q) : Srt K' := by
  have inw : ∀ i, K' i ≠ NOK → ¬ (i < a ∨ (a + w ≤ i ∧ a + W1 ≤ i)) → ∃ j, j < n ∧ i = a + j * W1 / n := by
    intro i hi c
    obtain ⟨p, rfl⟩ : ∃ p, i = a + p := ⟨i - a, by omega⟩
    by_cases d : ∃ j, j < n ∧ p = j * W1 / n
    · obtain ⟨j, hj, rfl⟩ := d
      exact ⟨j, hj, rfl⟩
    · exact absurd (k2 p (by omega) (fun j hj q => d ⟨j, hj, q⟩)) hi
  intro i j hij hj fi fj
  by_cases ci : i < a ∨ (a + w ≤ i ∧ a + W1 ≤ i)
  · have e1 := k3 i ci
    by_cases cj : j < a ∨ (a + w ≤ j ∧ a + W1 ≤ j)
    · have e2 := k3 j cj
      rw [e1] at fi ⊢
      rw [e2] at fj ⊢
      exact hs i j hij hj fi fj
    · obtain ⟨jj, h1, h2⟩ := inw j fj cj
      rw [e1] at fi ⊢
      rw [h2, k1 jj h1]
      exact b1 i jj (by omega) fi h1
  · obtain ⟨ii, g1, g2⟩ := inw i fi ci
    by_cases cj : j < a ∨ (a + w ≤ j ∧ a + W1 ≤ j)
    · have e2 := k3 j cj
      rw [e2] at fj ⊢
      rw [g2, k1 ii g1]
      exact b2 j ii (by omega) hj fj g1
    · obtain ⟨jj, h1, h2⟩ := inw j fj cj
      rw [g2, h2, k1 ii g1, k1 jj h1]
      refine hf ii jj ?_ h1
      rcases Nat.lt_trichotomy ii jj with z | z | z
      · exact z
      · exact absurd (by rw [g2, h2, z]) (Nat.ne_of_lt hij)
      · have := tj_lt (w := W1) (by omega) (hn (by omega)) z
        omega
theorem row_full {K : Nat → Int64} {a w j : Nat} (h : j < cnt K a w) : row K K a w j ≠ NOK ∧ ∃ i, i < w ∧ K (a + i) = row K K a w j ∧ cnt K a i = j := by
  obtain ⟨i, h1, h2, rfl⟩ := cnt_surj h
  rw [row_at h1 h2]
  exact ⟨h2, i, h1, rfl, rfl⟩
theorem row_rise {K : Nat → Int64} {a w : Nat} (hs : Srt K) (hw : a + w ≤ 512) : ∀ i j, i < j → j < cnt K a w → row K K a w i < row K K a w j := by
  intro i j hij hj
  obtain ⟨x, x1, x2, rfl⟩ := cnt_surj hj
  obtain ⟨y, y1, y2, rfl⟩ := cnt_surj (show i < cnt K a w by omega)
  rw [row_at x1 x2, row_at y1 y2]
  refine hs _ _ ?_ (by omega) y2 x2
  rcases Nat.lt_trichotomy y x with z | z | z
  · omega
  · rw [z] at hij; omega
  · have := cnt_full x2 z
    omega
/-- the row with a new key in its place rises -/
theorem kI_rise {f : Nat → Int64} {key : Int64} {n : Nat} (hf : ∀ i j, i < j → j < n → f i < f j) (hk : ∀ j, j < n → f j ≠ key) : ∀ i j, i < j → j < n + 1 → kI f key (ip f key n) i < kI f key (ip f key n) j := by
  have hip := ip_le f key n
  have lo : ∀ j, j < ip f key n → f j < key := by
    intro j hj
    obtain ⟨r, hr⟩ : ∃ r, ip f key n = r + 1 := ⟨ip f key n - 1, by omega⟩
    have h1 := ip_lo r hr
    rcases Nat.lt_or_ge j r with z | z
    · exact l_lt_of_lt_of_le (hf j r z (by omega)) h1
    · obtain rfl : j = r := by omega
      exact l_lt_of_le_ne h1 (hk j (by omega))
  have hi := ip_hi (f := f) (key := key) (n := n)
  intro i j hij hj
  unfold kI
  generalize ip f key n = p at *
  rcases Nat.lt_trichotomy i p with a1 | a1 | a1
  · rw [if_pos a1]
    rcases Nat.lt_trichotomy j p with b1 | b1 | b1
    · rw [if_pos b1]; exact hf i j hij (by omega)
    · rw [if_neg (by omega), if_pos b1]; exact lo i a1
    · rw [if_neg (by omega), if_neg (by omega)]; exact l_lt_trans (lo i a1) (hi (j - 1) (by omega) (by omega))
  · rw [if_neg (by omega), if_pos a1, if_neg (by omega), if_neg (by omega)]
    exact hi (j - 1) (by omega) (by omega)
  · rw [if_neg (by omega), if_neg (by omega), if_neg (by omega), if_neg (by omega)]
    exact hf (i - 1) (j - 1) (by omega) (by omega)
theorem kI_of {f : Nat → Int64} {key : Int64} {p n j : Nat} {P : Int64 → Prop} (hk : P key) (hf : ∀ j, j < n → P (f j)) (hp : p ≤ n) (hj : j < n + 1) : P (kI f key p j) := by
  unfold kI
  by_cases c : j < p
  · rw [if_pos c]; exact hf j (by omega)
  · rw [if_neg c]
    by_cases c2 : j = p
    · rw [if_pos c2]; exact hk
    · rw [if_neg c2]; exact hf (j - 1) (by omega)
end
section
/-! put: the two sides stay together. -/
def Rl (K V : Nat → Int64) (t l0 : Nat) (F : Nat → Int32) (J G : Nat → Int64) : Prop :=
  1 ≤ l0 ∧ l0 ≤ t ∧ t ≤ 6 ∧ Srt K ∧ (∀ i, 8 * 2 ^ t ≤ i → i < 512 → K i = NOK) ∧ Rm K F J ∧ (∀ i, i < 512 → K i ≠ NOK → G i = V i)
theorem row_ext {K X : Nat → Int64} {a w : Nat} : ∀ k, (∀ i, w ≤ i → i < w + k → K (a + i) = NOK) → cnt K a (w + k) = cnt K a w ∧ row K X a (w + k) = row K X a w
  | 0, _ => ⟨rfl, rfl⟩
  | k + 1, h => by
    obtain ⟨h1, h2⟩ := row_ext (X := X) k (fun i hi hi2 => h i hi (by omega))
    have e := h (w + k) (by omega) (by omega)
    rw [show w + (k + 1) = (w + k) + 1 from rfl]
    refine ⟨by rw [cnt_s, if_pos e]; exact h1, ?_⟩
    funext j
    rw [row_s, if_neg (fun q => q.1 e), h2]
theorem place_ok {K V : Nat → Int64} {t t' l0 : Nat} {F : Nat → Int32} {J G : Nat → Int64} {a w h : Nat} {key v : Int64} {lh : Int32} {mv : Int64} {wk wv : Nat → Int64}
    (hR0 : Rl K V t l0 F J G) (htt : t ≤ t') (ht : t' ≤ 6) (hh : h ≤ 6) (haw : a + 8 * 2 ^ h ≤ 8 * 2 ^ t') (hw : w ≤ 8 * 2 ^ h) (hext : ∀ i, w ≤ i → i < 8 * 2 ^ h → K (a + i) = NOK) (hn : cnt K a w < 8 * 2 ^ h)
    (hk : key ≠ NOK) (hno : ∀ i, i < 512 → K i ≠ NOK → K i ≠ key) (hb1 : ∀ q, q < a → K q ≠ NOK → K q < key) (hb2 : ∀ q, a + w ≤ q → q < 512 → K q ≠ NOK → key < K q) :
    ∃ K2 V2 F2 J2 G2 wk2 wv2, Rl K2 V2 t' l0 F2 J2 G2 ∧
      (∀ post : (Nat → Int64) → (Nat → Int64) → Int32 → Int64 → Prop, post K2 V2 (nI h) (mv + (nI (cnt K a w + 1)).toInt64) → wp_S_pack K V (nI a) (nI (8 * 2 ^ h)) (fun r K1 V1 => wp_S_insertPacked K1 V1 (nI a) r key v (fun K2 V2 => wp_S_spreadPacked K2 V2 lh mv (nI a) (nI h) (r + 1) post))) ∧
      (∀ post : (Nat → Int32) → (Nat → Int64) → (Nat → Int64) → Int32 → Int64 → Int32 → (Nat → Int64) → (Nat → Int64) → Prop, post F2 J2 G2 (nI h) (mv + (nI (cnt K a w + 1)).toInt64) (nI 0) wk2 wv2 →
        wp_M_lift F J G (nI 0) wk wv (nI a) (nI w) (fun F1 wa1 wk1 wv1 => wp_M_join wa1 wk1 wv1 key v (fun wa2 wk2 wv2 => wp_M_spread F1 J G lh mv wa2 wk2 wv2 (nI a) (nI h) (fun F' J' G' wi' mo' wa' => post F' J' G' wi' mo' wa' wk2 wv2)))) := by
  obtain ⟨r1, r2, r3, hs, hout, hR, hV⟩ := hR0
  have h6 := n_p6 ht
  obtain ⟨k, hk2⟩ : ∃ k, 8 * 2 ^ h = w + k := ⟨8 * 2 ^ h - w, by omega⟩
  have ec : cnt K a (8 * 2 ^ h) = cnt K a w := by rw [hk2]; exact (row_ext (X := K) k (fun i h1 h2 => hext i h1 (by omega))).1
  have er : ∀ X : Nat → Int64, row K X a (8 * 2 ^ h) = row K X a w := by intro X; rw [hk2]; exact (row_ext (X := X) k (fun i h1 h2 => hext i h1 (by omega))).2
  obtain ⟨K2, V2, hA, hS⟩ := S_join (K := K) (V := V) (a := a) (h := h) (key := key) (v := v) (lh := lh) (mv := mv) hh (by omega) (by rw [ec]; exact hn)
  rw [ec, er, er] at hA
  rw [ec] at hS
  obtain ⟨F1, F2, J2, G2, wk2, wv2, m1, m2, hM, hMw⟩ := M_join (wk := wk) (wv := wv) (a := a) (w := w) (h := h) (key := key) (v := v) (wi := lh) (mo := mv) hR hV hh (by omega) (by omega) hn
  have hrow : ∀ j, j < cnt K a w → row K K a w j ≠ NOK ∧ ∃ i, i < w ∧ K (a + i) = row K K a w j ∧ cnt K a i = j := fun j hj => row_full hj
  have hip := ip_le (row K K a w) key (cnt K a w)
  obtain ⟨a1, a2, a3⟩ := hA
  have hall : ∀ j, j < cnt K a w + 1 → kI (row K K a w) key (ip (row K K a w) key (cnt K a w)) j ≠ NOK := fun j hj => kI_of (P := fun z => z ≠ NOK) hk (fun j hj => (hrow j hj).1) hip hj
  have k2' : ∀ p, p < w ∨ p < 8 * 2 ^ h → (∀ j, j < cnt K a w + 1 → p ≠ j * (8 * 2 ^ h) / (cnt K a w + 1)) → K2 (a + p) = NOK := fun p hp hq => a2 p (by omega) hq
  have k3' : ∀ q, q < a ∨ (a + w ≤ q ∧ a + 8 * 2 ^ h ≤ q) → K2 q = K q ∧ V2 q = V q := fun q hq => a3 q (by omega)
  have hti := tie (K' := K2) (V' := V2) (F' := F2) (J' := J2) (G' := G2) (W1 := 8 * 2 ^ h) (n := cnt K a w + 1) hR hV hall (fun _ => by omega) a1 k2' k3' m1 m2 (fun q q1 q2 => by
      obtain ⟨i, rfl⟩ : ∃ i, q = a + i := ⟨q - a, by omega⟩
      exact (hR (a + i) (by omega)).1.mpr (hext i (by omega) (by omega))) hM
  have hsr : Srt K2 := by
    refine srt_ar (K := K) (K' := K2) (a := a) (w := w) (W1 := 8 * 2 ^ h) (n := cnt K a w + 1) hs (fun _ => by omega) ?_ (fun j hj => (a1 j hj).1) k2' (fun q hq => (k3' q hq).1) ?_ ?_
    · refine kI_rise (row_rise hs (by omega)) (fun j hj => ?_)
      obtain ⟨z1, i, z2, z3, z4⟩ := hrow j hj
      rw [← z3] at z1 ⊢
      exact hno (a + i) (by omega) z1
    · intro q j hq hf hj
      refine kI_of (P := fun z => K q < z) (hb1 q hq hf) (fun j hj => ?_) hip hj
      obtain ⟨z1, i, z2, z3, z4⟩ := hrow j hj
      rw [← z3] at z1 ⊢
      exact hs q (a + i) (by omega) (by omega) hf z1
    · intro q j hq hq2 hf hj
      refine kI_of (P := fun z => z < K q) (hb2 q hq hq2 hf) (fun j hj => ?_) hip hj
      obtain ⟨z1, i, z2, z3, z4⟩ := hrow j hj
      rw [← z3] at z1 ⊢
      exact hs (a + i) q (by omega) hq2 z1 hf
  have hp : 2 ^ t ≤ 2 ^ t' := Nat.pow_le_pow_right (by decide) htt
  refine ⟨K2, V2, F2, J2, G2, wk2, wv2, ⟨r1, by omega, ht, hsr, fun i hi hi2 => ?_, hti.1, hti.2⟩, hS, hMw⟩
  rw [(a3 i (by omega)).1]
  exact hout i (by omega) hi2
theorem M_put_hit {K : Nat → Int64} {F : Nat → Int32} {J G wk wv : Nat → Int64} {t x h : Nat} {key v : Int64} {wi : Int32} {mo : Int64} {post : Int32 → Int32 → (Nat → Int32) → (Nat → Int64) → (Nat → Int64) → Int32 → Int64 → Int32 → (Nat → Int64) → (Nat → Int64) → Prop}
    (hR : Rm K F J) (ht : t ≤ 6) (ht1 : 1 ≤ t) (hx : x < 2 ^ t) (hh : h ≤ t) (ho : okR K t x h) (hb : ∀ j, j < h → ¬ okR K t x j)
    (hbody : wp_M_lift F J G (nI 0) wk wv (nI (wf x h)) (nI (8 * 2 ^ h)) (fun F1 wa1 wk1 wv1 => wp_M_join wa1 wk1 wv1 key v (fun wa2 wk2 wv2 => wp_M_spread F1 J G wi mo wa2 wk2 wv2 (nI (wf x h)) (nI h) (fun F' J' G' wi' mo' wa' => post 1 (nI (8 * 2 ^ t)) F' J' G' wi' mo' wa' wk2 wv2)))) :
    ∃ n0, wp_M_put_L48 key v (nI x) (nI t) post n0 0 (nI (8 * 2 ^ t)) F J G wi mo (nI 0) wk wv := by
  have h6 := n_p6 ht
  have key2 : ∀ k j, j + k = h → wp_M_put_L48 key v (nI x) (nI t) post (k + 1) (nI j) (nI (8 * 2 ^ t)) F J G wi mo (nI 0) wk wv := by
    intro k
    induction k with
    | zero =>
      intro j e
      obtain rfl : j = h := by omega
      have hwf := wf_in ht hh hx
      have hm := n_mf ht hh ht1
      have hpj := n_p6 (show j ≤ 6 by omega)
      have hc := cnt_lt (K := K) (a := wf x j) (show j ≤ 6 by omega)
      rw [wp_M_put_L48]
      refine ⟨fun c => absurd c (nI_nlt (by omega) (by omega)), fun _ => ?_⟩
      rw [p_M_w (by omega)]
      refine p_M_firstOf (by omega) (by omega) ?_
      refine p_M_held hR (by omega) ?_
      refine p_M_most ht hh ht1 ?_
      rw [nI_1, nI_1]
      refine pk_lt (mostF t j) (cnt K (wf x j) (8 * 2 ^ j) + 1) (fun q => ?_) (fun q => hbody) rfl rfl (by omega) (by omega)
      unfold okR at ho
      omega
    | succ k ih =>
      intro j e
      have hwf := wf_in ht (show j ≤ t by omega) hx
      have hm := n_mf ht (show j ≤ t by omega) ht1
      have hpj := n_p6 (show j ≤ 6 by omega)
      have hc := cnt_lt (K := K) (a := wf x j) (show j ≤ 6 by omega)
      have hnb := hb j (by omega)
      rw [wp_M_put_L48]
      refine ⟨fun c => absurd c (nI_nlt (by omega) (by omega)), fun _ => ?_⟩
      rw [p_M_w (by omega)]
      refine p_M_firstOf (by omega) (by omega) ?_
      refine p_M_held hR (by omega) ?_
      refine p_M_most ht (by omega) ht1 ?_
      rw [nI_1, nI_1]
      refine pk_lt (mostF t j) (cnt K (wf x j) (8 * 2 ^ j) + 1) (fun q => ih (j + 1) (by omega)) (fun q => ?_) rfl rfl (by omega) (by omega)
      unfold okR at hnb
      omega
  exact ⟨_, key2 h 0 (by omega)⟩
theorem M_put_none {K : Nat → Int64} {F : Nat → Int32} {J G wk wv : Nat → Int64} {t x : Nat} {key v : Int64} {wi : Int32} {mo : Int64} {post : Int32 → Int32 → (Nat → Int32) → (Nat → Int64) → (Nat → Int64) → Int32 → Int64 → Int32 → (Nat → Int64) → (Nat → Int64) → Prop}
    (hR : Rm K F J) (ht : t ≤ 6) (ht1 : 1 ≤ t) (hx : x < 2 ^ t) (hb : ∀ j, j ≤ t → ¬ okR K t x j)
    (h1 : t = 6 → post (-1) (nI (8 * 2 ^ t)) F J G wi mo (nI 0) wk wv)
    (h2 : t < 6 → wp_M_lift F J G (nI 0) wk wv (nI 0) (nI (8 * 2 ^ t)) (fun F1 wa1 wk1 wv1 => wp_M_join wa1 wk1 wv1 key v (fun wa2 wk2 wv2 => wp_M_spread F1 J G wi mo wa2 wk2 wv2 (nI 0) (nI (t + 1)) (fun F' J' G' wi' mo' wa' => post 1 (nI (8 * 2 ^ (t + 1))) F' J' G' wi' mo' wa' wk2 wv2)))) :
    ∃ n0, wp_M_put_L48 key v (nI x) (nI t) post n0 0 (nI (8 * 2 ^ t)) F J G wi mo (nI 0) wk wv := by
  have h6 := n_p6 ht
  have hpp := n_pp t
  have key2 : ∀ k j, j + k = t + 1 → wp_M_put_L48 key v (nI x) (nI t) post (k + 1) (nI j) (nI (8 * 2 ^ t)) F J G wi mo (nI 0) wk wv := by
    intro k
    induction k with
    | zero =>
      intro j e
      obtain rfl : j = t + 1 := by omega
      rw [wp_M_put_L48]
      refine ⟨fun _ => ?_, fun c => absurd (nI_lt (by omega) (by omega)) c⟩
      refine pk_eq (8 * 2 ^ t) 512 (fun q => h1 ?_) (fun q => ?_) rfl rfl (by omega) (by decide)
      · rcases Nat.lt_or_ge t 6 with z | z
        · have : 2 ^ t ≤ 2 ^ 5 := Nat.pow_le_pow_right (by decide) (by omega)
          omega
        · omega
      · have ht5 : t < 6 := by
          rcases Nat.lt_or_ge t 6 with z | z
          · exact z
          · obtain rfl : t = 6 := by omega
            exact absurd rfl q
        have := h2 ht5
        rw [n_p1, show 8 * (2 * 2 ^ t) = 2 * (8 * 2 ^ t) by omega] at this
        rw [nI_1, n_lit2, pk_mul]
        exact this
    | succ k ih =>
      intro j e
      have hwf := wf_in ht (show j ≤ t by omega) hx
      have hm := n_mf ht (show j ≤ t by omega) ht1
      have hpj := n_p6 (show j ≤ 6 by omega)
      have hc := cnt_lt (K := K) (a := wf x j) (show j ≤ 6 by omega)
      have hnb := hb j (by omega)
      rw [wp_M_put_L48]
      refine ⟨fun c => absurd c (nI_nlt (by omega) (by omega)), fun _ => ?_⟩
      rw [p_M_w (by omega)]
      refine p_M_firstOf (by omega) (by omega) ?_
      refine p_M_held hR (by omega) ?_
      refine p_M_most ht (by omega) ht1 ?_
      rw [nI_1, nI_1]
      refine pk_lt (mostF t j) (cnt K (wf x j) (8 * 2 ^ j) + 1) (fun q => ih (j + 1) (by omega)) (fun q => ?_) rfl rfl (by omega) (by omega)
      unfold okR at hnb
      omega
  exact ⟨_, key2 (t + 1) 0 (by omega)⟩
theorem put_ok {K V : Nat → Int64} {t l0 : Nat} {F : Nat → Int32} {J G : Nat → Int64} (key v : Int64) (lh : Int32) (mv : Int64) (wk wv : Nat → Int64) (hR0 : Rl K V t l0 F J G) :
    ∃ (r : Int32) (K2 V2 : Nat → Int64) (t2 : Nat) (lh2 : Int32) (mv2 : Int64) (F2 : Nat → Int32) (J2 G2 wk2 wv2 : Nat → Int64), Rl K2 V2 t2 l0 F2 J2 G2 ∧ (r = -1 ∨ r = 0 ∨ r = 1) ∧
      (∀ post : Int32 → (Nat → Int64) → (Nat → Int64) → Int32 → Int32 → Int64 → Prop, post r K2 V2 (nI t2) lh2 mv2 → wp_S_put K V (nI t) lh mv key v post) ∧
      (∀ post : Int32 → Int32 → (Nat → Int32) → (Nat → Int64) → (Nat → Int64) → Int32 → Int64 → Int32 → (Nat → Int64) → (Nat → Int64) → Prop, post r (nI (8 * 2 ^ t2)) F2 J2 G2 lh2 mv2 (nI 0) wk2 wv2 → wp_M_put (nI (8 * 2 ^ t)) F J G lh mv (nI 0) wk wv key v post) := by
  obtain ⟨r1, r2, r3, hs, hout, hR, hV⟩ := id hR0
  have h6 := n_p6 r3
  by_cases hk : key = NOK
  · refine ⟨-1, K, V, t, lh, mv, F, J, G, wk, wv, hR0, Or.inl rfl, fun post h => ?_, fun post h => ?_⟩
    · unfold wp_S_put; exact ⟨fun _ => h, fun c => absurd hk c⟩
    · unfold wp_M_put; exact ⟨fun _ => h, fun c => absurd hk c⟩
  by_cases he : ∃ i, i < 8 * 2 ^ t ∧ K i ≠ NOK ∧ K i = key
  · obtain ⟨i, i1, i2, i3⟩ := he
    have uq : ∀ j, j < 8 * 2 ^ t → K j ≠ NOK → K j = key → j = i := by
      intro j j1 j2 j3
      rcases Nat.lt_trichotomy j i with q | q | q
      · exact absurd (hs j i q (by omega) j2 i2) (by rw [j3, i3]; exact l_irr)
      · exact q
      · exact absurd (hs i j q (by omega) i2 j2) (by rw [j3, i3]; exact l_irr)
    have none : ¬ (∀ j, j < 8 * 2 ^ t → K j ≠ NOK → K j ≠ key) := fun z => z i i1 i2 i3
    refine ⟨0, K, vp_updL V i v, t, lh, mv, F, J, vp_updL G i v, wk, wv, ⟨r1, r2, r3, hs, hout, hR, fun j hj hf => ?_⟩, Or.inr (Or.inl rfl), fun post h => ?_, fun post h => ?_⟩
    · by_cases z : j = i
      · rw [z, pk_uLs, pk_uLs]
      · rw [pk_uLn z, pk_uLn z]; exact hV j hj hf
    · unfold wp_S_put
      refine ⟨fun c => absurd c hk, fun _ => ?_⟩
      refine p_S_cellOf r3 hs hout (fun j j1 j2 j3 => ?_) (fun z => absurd z none)
      obtain rfl := uq j j1 j2 j3
      rw [nI_clamp (by omega)]
      exact ⟨fun c => absurd c (n_m1 (by omega)), fun _ => ⟨vp_in_nI (by omega) (by decide), h⟩⟩
    · unfold wp_M_put
      refine ⟨fun c => absurd c hk, fun _ => ?_⟩
      refine p_M_cellOf hR (by omega) (fun j j1 j2 j3 => ?_) (fun z => absurd z none)
      obtain rfl := uq j j1 j2 j3
      rw [nI_clamp (by omega)]
      exact ⟨fun c => absurd c (nI_pos (by omega)), fun _ => ⟨vp_in_nI (by omega) (by decide), h⟩⟩
  have hno : ∀ i, i < 8 * 2 ^ t → K i ≠ NOK → K i ≠ key := fun i i1 i2 i3 => he ⟨i, i1, i2, i3⟩
  have hno2 : ∀ i, i < 512 → K i ≠ NOK → K i ≠ key := by
    intro i i1 i2
    rcases Nat.lt_or_ge i (8 * 2 ^ t) with q | q
    · exact hno i q i2
    · exact absurd (hout i q i1) i2
  have hg := sg_lt K t key
  obtain ⟨sA, sB, -⟩ := sg_ok key r3 hs hout
  have toS : ∀ post : Int32 → (Nat → Int64) → (Nat → Int64) → Int32 → Int32 → Int64 → Prop, wp_S_putNew K V (nI t) lh mv key v (fun r K2 V2 lv2 lh2 mv2 => (r = 0 → post (-1) K2 V2 lv2 lh2 mv2) ∧ (¬ r = 0 → post 1 K2 V2 lv2 lh2 mv2)) → wp_S_put K V (nI t) lh mv key v post := by
    intro post hp
    unfold wp_S_put
    refine ⟨fun c => absurd c hk, fun _ => ?_⟩
    refine p_S_cellOf r3 hs hout (fun j j1 j2 j3 => absurd j3 (hno j j1 j2)) (fun _ => ?_)
    exact ⟨fun _ => hp, fun c => absurd rfl c⟩
  have toM : ∀ post : Int32 → Int32 → (Nat → Int32) → (Nat → Int64) → (Nat → Int64) → Int32 → Int64 → Int32 → (Nat → Int64) → (Nat → Int64) → Prop, (∃ n0, wp_M_put_L48 key v (nI (sg K t key)) (nI t) post n0 0 (nI (8 * 2 ^ t)) F J G lh mv (nI 0) wk wv) → wp_M_put (nI (8 * 2 ^ t)) F J G lh mv (nI 0) wk wv key v post := by
    intro post hp
    unfold wp_M_put
    refine ⟨fun c => absurd c hk, fun _ => ?_⟩
    refine p_M_cellOf hR (by omega) (fun j j1 j2 j3 => absurd j3 (hno j j1 j2)) (fun _ => ?_)
    refine ⟨fun _ => ?_, fun c => absurd (by decide) c⟩
    exact p_M_seek hR r3 (p_M_levels r3 hp)
  by_cases hr : ∃ h, h ≤ t ∧ okR K t (sg K t key) h
  · obtain ⟨h, ⟨h1, h2⟩, h3⟩ := pk_least (fun h => h ≤ t ∧ okR K t (sg K t key) h) hr
    have h3' : ∀ j, j < h → ¬ okR K t (sg K t key) j := fun j hj q => h3 j hj ⟨by omega, q⟩
    obtain ⟨w1, w2, w3⟩ := wf_in r3 h1 hg
    have hm := (n_mf r3 h1 (by omega)).2.2
    obtain ⟨K2, V2, F2, J2, G2, wk2, wv2, q1, q2, q3⟩ := place_ok (a := wf (sg K t key) h) (w := 8 * 2 ^ h) (h := h) (key := key) (v := v) (lh := lh) (mv := mv) (wk := wk) (wv := wv) hR0 (Nat.le_refl t) r3 (by omega) w1 (Nat.le_refl _) (fun i z1 z2 => absurd z1 (by omega)) (by unfold okR at h2; omega) hk hno2 (fun q z1 z2 => sA q (by omega) z2) (fun q z1 z2 z3 => sB q (by omega) z2 z3)
    refine ⟨1, K2, V2, t, nI h, mv + (nI (cnt K (wf (sg K t key) h) (8 * 2 ^ h) + 1)).toInt64, F2, J2, G2, wk2, wv2, q1, Or.inr (Or.inr rfl), fun post hp => toS post ?_, fun post hp => toM post ?_⟩
    · unfold wp_S_putNew
      refine p_S_seek r3 ?_
      refine p_S_heightWithRoom r3 (by omega) hg (fun h' z1 z2 z3 => ?_) (fun z => absurd h2 (z h h1))
      have e : h' = h := by
        rcases Nat.lt_trichotomy h' h with y | y | y
        · exact absurd z2 (h3' h' y)
        · exact y
        · exact absurd h2 (z3 h y)
      rw [e]
      refine ⟨fun c => absurd c (n_m1 (by omega)), fun _ => ?_⟩
      refine p_S_firstCell (by omega) (by omega) ?_
      refine p_S_windowCells (by omega) ?_
      exact q2 _ ⟨fun c => absurd c (by decide), fun _ => hp⟩
    · exact M_put_hit hR r3 (by omega) hg h1 h2 h3' (q3 (fun F' J' G' wi' mo' wa' wk' wv' => post 1 (nI (8 * 2 ^ t)) F' J' G' wi' mo' wa' wk' wv') hp)
  · have hnr : ∀ h, h ≤ t → ¬ okR K t (sg K t key) h := fun h z1 z2 => hr ⟨h, z1, z2⟩
    rcases Nat.lt_or_ge t 6 with t5 | t6
    · have e1 : 8 * 2 ^ (t + 1) = 8 * 2 ^ t + 8 * 2 ^ t := by rw [n_p1]; omega
      have hcl := cnt_le K 0 (8 * 2 ^ t)
      have hpp := n_pp t
      have h7 := n_p6 (show t + 1 ≤ 6 by omega)
      obtain ⟨K2, V2, F2, J2, G2, wk2, wv2, q1, q2, q3⟩ := place_ok (t' := t + 1) (a := 0) (w := 8 * 2 ^ t) (h := t + 1) (key := key) (v := v) (lh := lh) (mv := mv) (wk := wk) (wv := wv) hR0 (by omega) (by omega) (by omega) (by omega) (by omega) (fun i z1 z2 => by rw [Nat.zero_add]; exact hout i z1 (by omega)) (by omega) hk hno2 (fun q z1 z2 => absurd z1 (by omega)) (fun q z1 z2 z3 => absurd (hout q (by omega) z2) z3)
      refine ⟨1, K2, V2, t + 1, nI (t + 1), mv + (nI (cnt K 0 (8 * 2 ^ t) + 1)).toInt64, F2, J2, G2, wk2, wv2, q1, Or.inr (Or.inr rfl), fun post hp => toS post ?_, fun post hp => toM post ?_⟩
      · unfold wp_S_putNew
        refine p_S_seek r3 ?_
        refine p_S_heightWithRoom r3 (by omega) hg (fun h' z1 z2 z3 => absurd z2 (hnr h' z1)) (fun _ => ?_)
        refine ⟨fun _ => ?_, fun c => absurd rfl c⟩
        refine p_S_cells r3 ?_
        refine pk_eq (8 * 2 ^ t) 512 (fun q => absurd q ?_) (fun q => ?_) rfl rfl (by omega) (by decide)
        · have : 2 ^ t ≤ 2 ^ 5 := Nat.pow_le_pow_right (by decide) (by omega)
          omega
        · rw [nI_1]
          refine p_S_firstCell (by omega) (by omega) ?_
          have ew : wf (sg K t key) (t + 1) = 0 := by
            unfold wf
            rw [Nat.div_eq_of_lt (by rw [n_p1]; omega), Nat.zero_mul]
          rw [ew]
          refine p_S_windowCells (by omega) ?_
          exact q2 _ ⟨fun c => absurd c (by decide), fun _ => hp⟩
      · exact M_put_none hR r3 (by omega) hg hnr (fun z => absurd z (by omega)) (fun _ => q3 (fun F' J' G' wi' mo' wa' wk' wv' => post 1 (nI (8 * 2 ^ (t + 1))) F' J' G' wi' mo' wa' wk' wv') hp)
    · obtain rfl : t = 6 := by omega
      refine ⟨-1, K, V, 6, lh, mv, F, J, G, wk, wv, hR0, Or.inl rfl, fun post hp => toS post ?_, fun post hp => toM post ?_⟩
      · unfold wp_S_putNew
        refine p_S_seek r3 ?_
        refine p_S_heightWithRoom r3 (by omega) hg (fun h' z1 z2 z3 => absurd z2 (hnr h' z1)) (fun _ => ?_)
        refine ⟨fun _ => ?_, fun c => absurd rfl c⟩
        refine p_S_cells r3 ?_
        refine ⟨fun _ => ⟨fun _ => hp, fun c => absurd rfl c⟩, fun c => absurd (by decide) c⟩
      · exact M_put_none hR r3 (by omega) hg hnr (fun _ => hp) (fun z => absurd z (by omega))
end
section
/-! remove, drop, fill: the two sides stay together. -/
theorem again_ok {K V : Nat → Int64} {t t' l0 : Nat} {F : Nat → Int32} {J G : Nat → Int64} {a w h : Nat} {lh : Int32} {mv : Int64} {wk wv : Nat → Int64}
    (hR0 : Rl K V t l0 F J G) (htt : t' ≤ t) (hl : l0 ≤ t') (hh : h ≤ 6) (haw : a + w ≤ 512) (hw : 8 * 2 ^ h ≤ w) (hn : cnt K a w ≤ 8 * 2 ^ h)
    (hc1 : ∀ i, 8 * 2 ^ t' ≤ i → i < 512 → a + 8 * 2 ^ h ≤ i) (hc2 : ∀ i, 8 * 2 ^ t' ≤ i → a + w ≤ i → 8 * 2 ^ t ≤ i) :
    ∃ K2 V2 F2 J2 G2 wk2 wv2, Rl K2 V2 t' l0 F2 J2 G2 ∧
      (∀ post : (Nat → Int64) → (Nat → Int64) → Int32 → Int64 → Prop, post K2 V2 (nI h) (mv + (nI (cnt K a w)).toInt64) → wp_S_pack K V (nI a) (nI w) (fun r K1 V1 => wp_S_spreadPacked K1 V1 lh mv (nI a) (nI h) r post)) ∧
      (∀ post : (Nat → Int32) → (Nat → Int64) → (Nat → Int64) → Int32 → Int64 → Int32 → (Nat → Int64) → (Nat → Int64) → Prop, post F2 J2 G2 (nI h) (mv + (nI (cnt K a w)).toInt64) (nI 0) wk2 wv2 →
        wp_M_lift F J G (nI 0) wk wv (nI a) (nI w) (fun F1 wa1 wk1 wv1 => wp_M_spread F1 J G lh mv wa1 wk1 wv1 (nI a) (nI h) (fun F' J' G' wi' mo' wa' => post F' J' G' wi' mo' wa' wk1 wv1))) := by
  obtain ⟨r1, r2, r3, hs, hout, hR, hV⟩ := hR0
  obtain ⟨K2, V2, a1, a2, a3, hS⟩ := S_again (K := K) (V := V) (a := a) (w := w) (h := h) (lh := lh) (mv := mv) hh haw hw hn
  obtain ⟨F1, F2, J2, G2, wk2, wv2, m1, m2, hM, hMw⟩ := M_again (wk := wk) (wv := wv) (a := a) (w := w) (h := h) (wi := lh) (mo := mv) hR hV hh haw (by omega) hn
  have hrow : ∀ j, j < cnt K a w → row K K a w j ≠ NOK ∧ ∃ i, i < w ∧ K (a + i) = row K K a w j ∧ cnt K a i = j := fun j hj => row_full hj
  have k2' : ∀ p, p < w ∨ p < 8 * 2 ^ h → (∀ j, j < cnt K a w → p ≠ j * (8 * 2 ^ h) / (cnt K a w)) → K2 (a + p) = NOK := fun p hp hq => a2 p (by omega) hq
  have k3' : ∀ q, q < a ∨ (a + w ≤ q ∧ a + 8 * 2 ^ h ≤ q) → K2 q = K q ∧ V2 q = V q := fun q hq => a3 q (by omega)
  have hti := tie (K' := K2) (V' := V2) (F' := F2) (J' := J2) (G' := G2) (W1 := 8 * 2 ^ h) (n := cnt K a w) hR hV (fun j hj => (hrow j hj).1) (fun _ => hn) a1 k2' k3' m1 m2 (fun q q1 q2 => absurd q1 (by omega)) hM
  have hsr : Srt K2 := by
    refine srt_ar (K := K) (K' := K2) (a := a) (w := w) (W1 := 8 * 2 ^ h) (n := cnt K a w) hs (fun _ => hn) (row_rise hs haw) (fun j hj => (a1 j hj).1) k2' (fun q hq => (k3' q hq).1) ?_ ?_
    · intro q j hq hf hj
      obtain ⟨z1, i, z2, z3, z4⟩ := hrow j hj
      rw [← z3] at z1 ⊢
      exact hs q (a + i) (by omega) (by omega) hf z1
    · intro q j hq hq2 hf hj
      obtain ⟨z1, i, z2, z3, z4⟩ := hrow j hj
      rw [← z3] at z1 ⊢
      exact hs (a + i) q (by omega) hq2 z1 hf
  refine ⟨K2, V2, F2, J2, G2, wk2, wv2, ⟨r1, hl, by omega, hsr, fun i hi hi2 => ?_, hti.1, hti.2⟩, hS, hMw⟩
  have z1 := hc1 i hi hi2
  rcases Nat.lt_or_ge i (a + w) with z | z
  · obtain ⟨p, rfl⟩ : ∃ p, i = a + p := ⟨i - a, by omega⟩
    refine a2 p (by omega) (fun j hj e => ?_)
    have := tj_in (w := 8 * 2 ^ h) (show 0 < cnt K a w by omega) hn hj
    omega
  · rw [(a3 i (by omega)).1]
    exact hout i (hc2 i hi z) hi2
theorem clear_ok {K V : Nat → Int64} {t l0 : Nat} {F : Nat → Int32} {J G : Nat → Int64} {i : Nat} (hR0 : Rl K V t l0 F J G) (hi : i < 8 * 2 ^ t) : Rl (vp_updL K i NOK) (vp_updL V i 0) t l0 (upd F i 0) J G := by
  obtain ⟨r1, r2, r3, hs, hout, hR, hV⟩ := hR0
  have ne : ∀ j, vp_updL K i NOK j ≠ NOK → j ≠ i := fun j hj e => hj (by rw [e]; exact pk_uLs)
  refine ⟨r1, r2, r3, fun a b hab hb fa fb => ?_, fun j h1 h2 => ?_, fun j hj => ?_, fun j hj hf => ?_⟩
  · have ea := ne a fa
    have eb := ne b fb
    rw [pk_uLn ea] at fa ⊢
    rw [pk_uLn eb] at fb ⊢
    exact hs a b hab hb fa fb
  · rw [pk_uLn (by omega)]; exact hout j h1 h2
  · by_cases e : j = i
    · rw [e, pk_us, pk_uLs]
      exact ⟨⟨fun _ => rfl, fun _ => rfl⟩, fun q => absurd rfl q⟩
    · rw [pk_un e, pk_uLn e]; exact hR j hj
  · have e := ne j hf
    rw [pk_uLn e] at hf ⊢
    exact hV j hj hf
theorem M_rem_hit {K : Nat → Int64} {F : Nat → Int32} {J G wk wv : Nat → Int64} {t i h : Nat} {le wi : Int32} {mo : Int64} {post : Int32 → Int32 → (Nat → Int32) → (Nat → Int64) → (Nat → Int64) → Int32 → Int64 → Int32 → (Nat → Int64) → (Nat → Int64) → Prop}
    (hR : Rm K F J) (ht : t ≤ 6) (ht1 : 1 ≤ t) (hi : i < 8 * 2 ^ t) (hh : h ≤ t) (ho : okE K t (i / 8) h) (hb : ∀ j, j < h → ¬ okE K t (i / 8) j)
    (hbody : wp_M_lift F J G (nI 0) wk wv (nI (wf (i / 8) h)) (nI (8 * 2 ^ h)) (fun F1 wa1 wk1 wv1 => wp_M_spread F1 J G wi mo wa1 wk1 wv1 (nI (wf (i / 8) h)) (nI h) (fun F' J' G' wi' mo' wa' => post 1 (nI (8 * 2 ^ t)) F' J' G' wi' mo' wa' wk1 wv1))) :
    ∃ n0, wp_M_remove_L28 le (nI i) (nI t) post n0 0 (nI (8 * 2 ^ t)) F J G wi mo (nI 0) wk wv := by
  have h6 := n_p6 ht
  have hx : i / 8 < 2 ^ t := by omega
  have ei : nI i / 8 = nI (i / 8) := by rw [n_lit8, pk_div (by omega) (by decide) (by decide)]
  have key2 : ∀ k j, j + k = h → wp_M_remove_L28 le (nI i) (nI t) post (k + 1) (nI j) (nI (8 * 2 ^ t)) F J G wi mo (nI 0) wk wv := by
    intro k
    induction k with
    | zero =>
      intro j e
      obtain rfl : j = h := by omega
      have hwf := wf_in ht hh hx
      have hm := fewF_lt ht hh ht1
      have hpj := n_p6 (show j ≤ 6 by omega)
      have hc := cnt_lt (K := K) (a := wf (i / 8) j) (show j ≤ 6 by omega)
      rw [wp_M_remove_L28]
      refine ⟨fun c => absurd c (nI_nlt (by omega) (by omega)), fun _ => ?_⟩
      rw [p_M_w (by omega), ei]
      refine p_M_firstOf (by omega) (by omega) ?_
      refine p_M_held hR (by omega) ?_
      refine p_M_fewest ht hh ht1 ?_
      rw [nI_1]
      refine pk_lt (cnt K (wf (i / 8) j) (8 * 2 ^ j)) (fewF t j) (fun q => ?_) (fun q => hbody) rfl rfl (by omega) (by omega)
      unfold okE at ho
      omega
    | succ k ih =>
      intro j e
      have hwf := wf_in ht (show j ≤ t by omega) hx
      have hm := fewF_lt ht (show j ≤ t by omega) ht1
      have hpj := n_p6 (show j ≤ 6 by omega)
      have hc := cnt_lt (K := K) (a := wf (i / 8) j) (show j ≤ 6 by omega)
      have hnb := hb j (by omega)
      rw [wp_M_remove_L28]
      refine ⟨fun c => absurd c (nI_nlt (by omega) (by omega)), fun _ => ?_⟩
      rw [p_M_w (by omega), ei]
      refine p_M_firstOf (by omega) (by omega) ?_
      refine p_M_held hR (by omega) ?_
      refine p_M_fewest ht (by omega) ht1 ?_
      rw [nI_1]
      refine pk_lt (cnt K (wf (i / 8) j) (8 * 2 ^ j)) (fewF t j) (fun q => ih (j + 1) (by omega)) (fun q => ?_) rfl rfl (by omega) (by omega)
      unfold okE at hnb
      omega
  exact ⟨_, key2 h 0 (by omega)⟩
theorem M_rem_none {K : Nat → Int64} {F : Nat → Int32} {J G wk wv : Nat → Int64} {t l0 i : Nat} {wi : Int32} {mo : Int64} {post : Int32 → Int32 → (Nat → Int32) → (Nat → Int64) → (Nat → Int64) → Int32 → Int64 → Int32 → (Nat → Int64) → (Nat → Int64) → Prop}
    (hR : Rm K F J) (ht : t ≤ 6) (hl : l0 ≤ t) (ht1 : 1 ≤ t) (hi : i < 8 * 2 ^ t) (hb : ∀ j, j ≤ t → ¬ okE K t (i / 8) j)
    (h1 : t = l0 → post 1 (nI (8 * 2 ^ t)) F J G wi mo (nI 0) wk wv)
    (h2 : l0 < t → wp_M_lift F J G (nI 0) wk wv (nI 0) (nI (8 * 2 ^ t)) (fun F1 wa1 wk1 wv1 => wp_M_spread F1 J G wi mo wa1 wk1 wv1 (nI 0) (nI (t - 1)) (fun F' J' G' wi' mo' wa' => post 1 (nI (8 * 2 ^ (t - 1))) F' J' G' wi' mo' wa' wk1 wv1))) :
    ∃ n0, wp_M_remove_L28 (nI (8 * 2 ^ l0)) (nI i) (nI t) post n0 0 (nI (8 * 2 ^ t)) F J G wi mo (nI 0) wk wv := by
  have h6 := n_p6 ht
  have h6l := n_p6 (show l0 ≤ 6 by omega)
  have hx : i / 8 < 2 ^ t := by omega
  have ei : nI i / 8 = nI (i / 8) := by rw [n_lit8, pk_div (by omega) (by decide) (by decide)]
  have key2 : ∀ k j, j + k = t + 1 → wp_M_remove_L28 (nI (8 * 2 ^ l0)) (nI i) (nI t) post (k + 1) (nI j) (nI (8 * 2 ^ t)) F J G wi mo (nI 0) wk wv := by
    intro k
    induction k with
    | zero =>
      intro j e
      obtain rfl : j = t + 1 := by omega
      rw [wp_M_remove_L28]
      refine ⟨fun _ => ?_, fun c => absurd (nI_lt (by omega) (by omega)) c⟩
      refine pk_le (8 * 2 ^ t) (8 * 2 ^ l0) (fun q => h1 ?_) (fun q => ?_) rfl rfl (by omega) (by omega)
      · rcases Nat.lt_or_ge l0 t with z | z
        · have : 2 ^ (l0 + 1) ≤ 2 ^ t := Nat.pow_le_pow_right (by decide) (by omega)
          rw [n_p1] at this
          have := n_pp l0
          omega
        · omega
      · have hlt : l0 < t := by
          rcases Nat.lt_or_ge l0 t with z | z
          · exact z
          · obtain rfl : l0 = t := by omega
            omega
        have := h2 hlt
        have e2 : 2 ^ t = 2 * 2 ^ (t - 1) := by rw [← n_p1, show t - 1 + 1 = t by omega]
        have e3 : 8 * 2 ^ t / 2 = 8 * 2 ^ (t - 1) := by omega
        rw [n_lit1, pk_sub (by omega), n_lit2, pk_div (by omega) (by decide) (by decide), e3]
        exact this
    | succ k ih =>
      intro j e
      have hwf := wf_in ht (show j ≤ t by omega) hx
      have hm := fewF_lt ht (show j ≤ t by omega) ht1
      have hpj := n_p6 (show j ≤ 6 by omega)
      have hc := cnt_lt (K := K) (a := wf (i / 8) j) (show j ≤ 6 by omega)
      have hnb := hb j (by omega)
      rw [wp_M_remove_L28]
      refine ⟨fun c => absurd c (nI_nlt (by omega) (by omega)), fun _ => ?_⟩
      rw [p_M_w (by omega), ei]
      refine p_M_firstOf (by omega) (by omega) ?_
      refine p_M_held hR (by omega) ?_
      refine p_M_fewest ht (by omega) ht1 ?_
      rw [nI_1]
      refine pk_lt (cnt K (wf (i / 8) j) (8 * 2 ^ j)) (fewF t j) (fun q => ih (j + 1) (by omega)) (fun q => ?_) rfl rfl (by omega) (by omega)
      unfold okE at hnb
      omega
  exact ⟨_, key2 (t + 1) 0 (by omega)⟩
theorem takeOut_ok {K V : Nat → Int64} {t l0 : Nat} {F : Nat → Int32} {J G : Nat → Int64} {i : Nat} (lh : Int32) (mv : Int64) (wk wv : Nat → Int64) (hR0 : Rl K V t l0 F J G) (hi : i < 8 * 2 ^ t) :
    ∃ (K2 V2 : Nat → Int64) (t2 : Nat) (lh2 : Int32) (mv2 : Int64) (F2 : Nat → Int32) (J2 G2 wk2 wv2 : Nat → Int64), Rl K2 V2 t2 l0 F2 J2 G2 ∧
      (∀ post : (Nat → Int64) → (Nat → Int64) → Int32 → Int32 → Int64 → Prop, post K2 V2 (nI t2) lh2 mv2 → wp_S_takeOut K V (nI l0) (nI t) lh mv (nI i) post) ∧
      (∀ post : Int32 → Int32 → (Nat → Int32) → (Nat → Int64) → (Nat → Int64) → Int32 → Int64 → Int32 → (Nat → Int64) → (Nat → Int64) → Prop, post 1 (nI (8 * 2 ^ t2)) F2 J2 G2 lh2 mv2 (nI 0) wk2 wv2 → ∃ n0, wp_M_remove_L28 (nI (8 * 2 ^ l0)) (nI i) (nI t) post n0 0 (nI (8 * 2 ^ t)) (upd F i 0) J G lh mv (nI 0) wk wv) := by
  have hR1 := clear_ok hR0 hi
  obtain ⟨r1, r2, r3, hs, hout, hR, hV⟩ := id hR1
  have h6 := n_p6 r3
  have hx : i / 8 < 2 ^ t := by omega
  have ei : nI i / 8 = nI (i / 8) := by rw [n_lit8, pk_div (by omega) (by decide) (by decide)]
  by_cases hr : ∃ h, h ≤ t ∧ okE (vp_updL K i NOK) t (i / 8) h
  · obtain ⟨h, ⟨h1, h2⟩, h3⟩ := pk_least (fun h => h ≤ t ∧ okE (vp_updL K i NOK) t (i / 8) h) hr
    have h3' : ∀ j, j < h → ¬ okE (vp_updL K i NOK) t (i / 8) j := fun j hj q => h3 j hj ⟨by omega, q⟩
    obtain ⟨w1, w2, w3⟩ := wf_in r3 h1 hx
    obtain ⟨K2, V2, F2, J2, G2, wk2, wv2, q1, q2, q3⟩ := again_ok (t' := t) (a := wf (i / 8) h) (w := 8 * 2 ^ h) (h := h) (lh := lh) (mv := mv) (wk := wk) (wv := wv) hR1 (Nat.le_refl t) r2 (by omega) (by omega) (Nat.le_refl _) (cnt_le _ _ _) (fun i z1 z2 => by omega) (fun i z1 z2 => z1)
    refine ⟨K2, V2, t, nI h, mv + (nI (cnt (vp_updL K i NOK) (wf (i / 8) h) (8 * 2 ^ h))).toInt64, F2, J2, G2, wk2, wv2, q1, fun post hp => ?_, fun post hp => ?_⟩
    · unfold wp_S_takeOut
      refine p_S_clear (by omega) ?_
      rw [ei]
      refine p_S_heightWithEnough r3 (by omega) hx (fun h' z1 z2 z3 => ?_) (fun z => absurd h2 (z h h1))
      have e : h' = h := by
        rcases Nat.lt_trichotomy h' h with y | y | y
        · exact absurd z2 (h3' h' y)
        · exact y
        · exact absurd h2 (z3 h y)
      rw [e]
      refine ⟨fun c => absurd c (n_m1 (by omega)), fun _ => ?_⟩
      refine p_S_firstCell (by omega) (by omega) ?_
      refine p_S_windowCells (by omega) ?_
      exact q2 _ hp
    · exact M_rem_hit hR r3 (by omega) hi h1 h2 h3' (q3 (fun F' J' G' wi' mo' wa' wk' wv' => post 1 (nI (8 * 2 ^ t)) F' J' G' wi' mo' wa' wk' wv') hp)
  · have hnr : ∀ h, h ≤ t → ¬ okE (vp_updL K i NOK) t (i / 8) h := fun h z1 z2 => hr ⟨h, z1, z2⟩
    rcases Nat.lt_or_ge l0 t with lt | lt
    · have e2 : 2 ^ t = 2 * 2 ^ (t - 1) := by rw [← n_p1, show t - 1 + 1 = t by omega]
      have ew : wf (i / 8) t = 0 := by
        unfold wf
        rw [Nat.div_eq_of_lt hx, Nat.zero_mul]
      have hfew : cnt (vp_updL K i NOK) 0 (8 * 2 ^ t) ≤ 8 * 2 ^ (t - 1) := by
        have hz := hnr t (Nat.le_refl t)
        unfold okE at hz
        rw [ew] at hz
        have hz2 : fewF t t ≤ 2 * 2 ^ t := by
          unfold fewF
          have a1 : 8 * 2 ^ t * (t + t) = 2 * 2 ^ t * (8 * t) := by
            rw [← Nat.two_mul, Nat.mul_comm 8 (2 ^ t), Nat.mul_assoc, Nat.mul_comm 2 (2 ^ t), Nat.mul_assoc]
            congr 1
            omega
          rw [a1, Nat.div_le_iff_le_mul_add_pred (by omega), Nat.mul_comm (8 * t)]
          omega
        omega
      obtain ⟨K2, V2, F2, J2, G2, wk2, wv2, q1, q2, q3⟩ := again_ok (t' := t - 1) (a := 0) (w := 8 * 2 ^ t) (h := t - 1) (lh := lh) (mv := mv) (wk := wk) (wv := wv) hR1 (by omega) (by omega) (by omega) (by omega) (by omega) hfew (fun i z1 z2 => by omega) (fun i z1 z2 => by omega)
      refine ⟨K2, V2, t - 1, nI (t - 1), mv + (nI (cnt (vp_updL K i NOK) 0 (8 * 2 ^ t))).toInt64, F2, J2, G2, wk2, wv2, q1, fun post hp => ?_, fun post hp => ?_⟩
      · unfold wp_S_takeOut
        refine p_S_clear (by omega) ?_
        rw [ei]
        refine p_S_heightWithEnough r3 (by omega) hx (fun h' z1 z2 z3 => absurd z2 (hnr h' z1)) (fun _ => ?_)
        refine ⟨fun _ => ?_, fun c => absurd rfl c⟩
        refine ⟨fun c => absurd c (nI_ge lt (by omega)), fun _ => ?_⟩
        unfold wp_S_halve
        refine p_S_cells r3 ?_
        rw [n_lit1, pk_sub (by omega)]
        exact q2 _ hp
      · exact M_rem_none hR r3 r2 (by omega) hi hnr (fun z => absurd z (by omega)) (fun _ => q3 (fun F' J' G' wi' mo' wa' wk' wv' => post 1 (nI (8 * 2 ^ (t - 1))) F' J' G' wi' mo' wa' wk' wv') hp)
    · obtain rfl : l0 = t := by omega
      refine ⟨vp_updL K i NOK, vp_updL V i 0, l0, lh, mv, upd F i 0, J, G, wk, wv, hR1, fun post hp => ?_, fun post hp => ?_⟩
      · unfold wp_S_takeOut
        refine p_S_clear (by omega) ?_
        rw [ei]
        refine p_S_heightWithEnough r3 (by omega) hx (fun h' z1 z2 z3 => absurd z2 (hnr h' z1)) (fun _ => ?_)
        exact ⟨fun _ => ⟨fun _ => hp, fun c => absurd (nI_le (Nat.le_refl _) (by omega)) c⟩, fun c => absurd rfl c⟩
      · exact M_rem_none hR r3 (Nat.le_refl _) (by omega) hi hnr (fun _ => hp) (fun z => absurd z (by omega))
theorem Rl_uniq {K V : Nat → Int64} {t l0 : Nat} {F : Nat → Int32} {J G : Nat → Int64} {i j : Nat} (hR0 : Rl K V t l0 F J G) (hi : i < 8 * 2 ^ t) (hj : j < 8 * 2 ^ t) (fi : K i ≠ NOK) (fj : K j ≠ NOK) (e : K i = K j) : i = j := by
  obtain ⟨r1, r2, r3, hs, hout, hR, hV⟩ := hR0
  have h6 := n_p6 r3
  rcases Nat.lt_trichotomy i j with q | q | q
  · exact absurd (hs i j q (by omega) fi fj) (by rw [e]; exact l_irr)
  · exact q
  · exact absurd (hs j i q (by omega) fj fi) (by rw [e]; exact l_irr)
/-- the reference's remove of a key that is there -/
theorem M_remove_at {K V : Nat → Int64} {t l0 : Nat} {F : Nat → Int32} {J G : Nat → Int64} {i : Nat} {le lh : Int32} {mv : Int64} {wk wv : Nat → Int64} {post : Int32 → Int32 → (Nat → Int32) → (Nat → Int64) → (Nat → Int64) → Int32 → Int64 → Int32 → (Nat → Int64) → (Nat → Int64) → Prop}
    (hR0 : Rl K V t l0 F J G) (hi : i < 8 * 2 ^ t) (fi : K i ≠ NOK) (h : ∃ n0, wp_M_remove_L28 le (nI i) (nI t) post n0 0 (nI (8 * 2 ^ t)) (upd F i 0) J G lh mv (nI 0) wk wv) :
    wp_M_remove le (nI (8 * 2 ^ t)) F J G lh mv (nI 0) wk wv (K i) post := by
  obtain ⟨r1, r2, r3, hs, hout, hR, hV⟩ := id hR0
  have h6 := n_p6 r3
  unfold wp_M_remove
  refine p_M_cellOf hR (by omega) (fun j j1 j2 j3 => ?_) (fun z => absurd rfl (z i hi fi))
  obtain rfl := Rl_uniq hR0 hi j1 fi j2 j3.symm
  rw [nI_clamp (by omega), nz0]
  refine ⟨fun _ => ⟨vp_in_nI (by omega) (by decide), p_M_levels r3 h⟩, fun c => absurd (nI_pos' (by omega)) c⟩
theorem remove_ok {K V : Nat → Int64} {t l0 : Nat} {F : Nat → Int32} {J G : Nat → Int64} (key : Int64) (lh : Int32) (mv : Int64) (wk wv : Nat → Int64) (hR0 : Rl K V t l0 F J G) :
    ∃ (r : Int32) (K2 V2 : Nat → Int64) (t2 : Nat) (lh2 : Int32) (mv2 : Int64) (F2 : Nat → Int32) (J2 G2 wk2 wv2 : Nat → Int64), Rl K2 V2 t2 l0 F2 J2 G2 ∧
      (∀ post : Int32 → (Nat → Int64) → (Nat → Int64) → Int32 → Int32 → Int64 → Prop, post r K2 V2 (nI t2) lh2 mv2 → wp_S_remove K V (nI l0) (nI t) lh mv key post) ∧
      (∀ post : Int32 → Int32 → (Nat → Int32) → (Nat → Int64) → (Nat → Int64) → Int32 → Int64 → Int32 → (Nat → Int64) → (Nat → Int64) → Prop, post r (nI (8 * 2 ^ t2)) F2 J2 G2 lh2 mv2 (nI 0) wk2 wv2 → wp_M_remove (nI (8 * 2 ^ l0)) (nI (8 * 2 ^ t)) F J G lh mv (nI 0) wk wv key post) := by
  obtain ⟨r1, r2, r3, hs, hout, hR, hV⟩ := id hR0
  have h6 := n_p6 r3
  by_cases he : ∃ i, i < 8 * 2 ^ t ∧ K i ≠ NOK ∧ K i = key
  · obtain ⟨i, i1, i2, rfl⟩ := he
    obtain ⟨K2, V2, t2, lh2, mv2, F2, J2, G2, wk2, wv2, q1, q2, q3⟩ := takeOut_ok lh mv wk wv hR0 i1
    refine ⟨1, K2, V2, t2, lh2, mv2, F2, J2, G2, wk2, wv2, q1, fun post hp => ?_, fun post hp => M_remove_at hR0 i1 i2 (q3 post hp)⟩
    unfold wp_S_remove
    refine p_S_cellOf r3 hs hout (fun j j1 j2 j3 => ?_) (fun z => absurd rfl (z i i1 i2))
    obtain rfl := Rl_uniq hR0 i1 j1 i2 j2 j3.symm
    exact ⟨fun c => absurd c (n_m1 (by omega)), fun _ => q2 _ hp⟩
  · have hno : ∀ i, i < 8 * 2 ^ t → K i ≠ NOK → K i ≠ key := fun i i1 i2 i3 => he ⟨i, i1, i2, i3⟩
    refine ⟨0, K, V, t, lh, mv, F, J, G, wk, wv, hR0, fun post hp => ?_, fun post hp => ?_⟩
    · unfold wp_S_remove
      refine p_S_cellOf r3 hs hout (fun j j1 j2 j3 => absurd j3 (hno j j1 j2)) (fun _ => ?_)
      exact ⟨fun _ => hp, fun c => absurd rfl c⟩
    · unfold wp_M_remove
      refine p_M_cellOf hR (by omega) (fun j j1 j2 j3 => absurd j3 (hno j j1 j2)) (fun _ => ?_)
      exact ⟨fun c => absurd c (by decide), fun _ => hp⟩
theorem drop_ok {K V : Nat → Int64} {t l0 : Nat} {F : Nat → Int32} {J G : Nat → Int64} (key : Int64) (a : Int32) (lh : Int32) (mv : Int64) (wk wv : Nat → Int64) (hR0 : Rl K V t l0 F J G) :
    ∃ (r : Int32) (K2 V2 : Nat → Int64) (t2 : Nat) (lh2 : Int32) (mv2 : Int64) (F2 : Nat → Int32) (J2 G2 wk2 wv2 : Nat → Int64), Rl K2 V2 t2 l0 F2 J2 G2 ∧
      (∀ post : Int32 → (Nat → Int64) → (Nat → Int64) → Int32 → Int32 → Int64 → Prop, post r K2 V2 (nI t2) lh2 mv2 → wp_S_drop K V (nI l0) (nI t) lh mv key a post) ∧
      (∀ post : Int32 → Int32 → (Nat → Int32) → (Nat → Int64) → (Nat → Int64) → Int32 → Int64 → Int32 → (Nat → Int64) → (Nat → Int64) → Prop, post r (nI (8 * 2 ^ t2)) F2 J2 G2 lh2 mv2 (nI 0) wk2 wv2 → wp_M_drop (nI (8 * 2 ^ l0)) (nI (8 * 2 ^ t)) F J G lh mv (nI 0) wk wv key a post) := by
  by_cases c1 : a < 0
  · refine ⟨-1, K, V, t, lh, mv, F, J, G, wk, wv, hR0, fun post hp => ?_, fun post hp => ?_⟩
    · unfold wp_S_drop; exact ⟨fun _ => hp, fun c => absurd c1 c⟩
    · unfold wp_M_drop; exact ⟨fun _ => hp, fun c => absurd c1 c⟩
  by_cases c2 : a ≤ 64
  · obtain ⟨m, hm, rfl⟩ := nI_of2 (n := 64) (M := 64) (by decide) c1 c2
    have main : ∀ k j K V t F J G lh mv wk wv, j + k = m → Rl K V t l0 F J G →
        ∃ (r : Int32) (K2 V2 : Nat → Int64) (t2 : Nat) (lh2 : Int32) (mv2 : Int64) (F2 : Nat → Int32) (J2 G2 wk2 wv2 : Nat → Int64), Rl K2 V2 t2 l0 F2 J2 G2 ∧
          (∀ post : Int32 → (Nat → Int64) → (Nat → Int64) → Int32 → Int32 → Int64 → Prop, post r K2 V2 (nI t2) lh2 mv2 → wp_S_drop_L15 (nI l0) key (nI m) post (k + 1) (nI j) K V (nI t) lh mv) ∧
          (∀ post : Int32 → Int32 → (Nat → Int32) → (Nat → Int64) → (Nat → Int64) → Int32 → Int64 → Int32 → (Nat → Int64) → (Nat → Int64) → Prop, post r (nI (8 * 2 ^ t2)) F2 J2 G2 lh2 mv2 (nI 0) wk2 wv2 → wp_M_drop_L21 (nI (8 * 2 ^ l0)) key (nI m) post (k + 2) (nI j) 1 (nI j) (nI (8 * 2 ^ t)) F J G lh mv (nI 0) wk wv) := by
      intro k
      induction k with
      | zero =>
        intro j K V t F J G lh mv wk wv e hR0
        obtain rfl : j = m := by omega
        refine ⟨nI j, K, V, t, lh, mv, F, J, G, wk, wv, hR0, fun post hp => ?_, fun post hp => ?_⟩
        · rw [wp_S_drop_L15]
          exact ⟨fun _ => hp, fun c => absurd (nI_le (Nat.le_refl _) (by omega)) c⟩
        · rw [wp_M_drop_L21]
          exact ⟨fun _ => hp, fun c => absurd (nI_le (Nat.le_refl _) (by omega)) c⟩
      | succ k ih =>
        intro j K V t F J G lh mv wk wv e hR0
        obtain ⟨r1, r2, r3, hs, hout, hR, hV⟩ := id hR0
        have h6 := n_p6 r3
        by_cases hc : ∃ i, IsC K (8 * 2 ^ t) key i
        · obtain ⟨i, hi⟩ := hc
          have uq : ∀ i', IsC K (8 * 2 ^ t) key i' → i' = i := by
            intro i' hi'
            rcases Nat.lt_trichotomy i' i with q | q | q
            · exact absurd (hi.2.2.2 i' q hi'.2.1) (l_nlt.mpr hi'.2.2.1)
            · exact q
            · exact absurd (hi'.2.2.2 i q hi.2.1) (l_nlt.mpr hi.2.2.1)
          have nn : ¬ NoC K (8 * 2 ^ t) key := fun z => l_nlt.mpr hi.2.2.1 (z i hi.1 hi.2.1)
          obtain ⟨K1, V1, t1, lh1, mv1, F1, J1, G1, wk1, wv1, q1, q2, q3⟩ := takeOut_ok lh mv wk wv hR0 hi.1
          obtain ⟨r, K2, V2, t2, lh2, mv2, F2, J2, G2, wk2, wv2, p1, p2, p3⟩ := ih (j + 1) K1 V1 t1 F1 J1 G1 lh1 mv1 wk1 wv1 (by omega) q1
          refine ⟨r, K2, V2, t2, lh2, mv2, F2, J2, G2, wk2, wv2, p1, fun post hp => ?_, fun post hp => ?_⟩
          · rw [wp_S_drop_L15]
            refine ⟨fun c => absurd c (nI_ge (by omega) (by omega)), fun _ => ?_⟩
            refine p_S_cellNotBelow r3 hs hout (fun i' hi' => ?_) (fun z => absurd z nn)
            obtain rfl := uq i' hi'
            refine ⟨fun c => absurd c (n_m1 (by have := hi.1; omega)), fun _ => q2 _ ?_⟩
            rw [nI_1]
            exact p2 post hp
          · rw [wp_M_drop_L21]
            refine ⟨fun c => absurd c (nI_ge (by omega) (by omega)), fun _ => ⟨fun c => absurd c (by decide), fun _ => ?_⟩⟩
            refine p_M_ceiling hR (by omega) (fun i' hi' => ?_) (fun z => absurd z nn)
            obtain rfl := uq i' hi'
            refine ⟨fun c => absurd c hi.2.1, fun _ => ?_⟩
            refine M_remove_at hR0 hi.1 hi.2.1 (q3 _ ?_)
            rw [nI_1]
            exact ⟨fun c => absurd c (by decide), fun _ => p3 post hp⟩
        · have nn : NoC K (8 * 2 ^ t) key := by
            intro i hi fi
            rcases Classical.em (K i < key) with z | z
            · exact z
            · exfalso
              obtain ⟨i2, ⟨y1, y2, y3⟩, y4⟩ := pk_least (fun i => i < 8 * 2 ^ t ∧ K i ≠ NOK ∧ key ≤ K i) ⟨i, hi, fi, l_nlt.mp z⟩
              refine hc ⟨i2, y1, y2, y3, fun j hj fj => ?_⟩
              rw [← l_nle]
              exact fun q => y4 j hj ⟨by omega, fj, q⟩
          have ni : ∀ i, ¬ IsC K (8 * 2 ^ t) key i := fun i hi => hc ⟨i, hi⟩
          refine ⟨nI j, K, V, t, lh, mv, F, J, G, wk, wv, hR0, fun post hp => ?_, fun post hp => ?_⟩
          · rw [wp_S_drop_L15]
            refine ⟨fun c => absurd c (nI_ge (by omega) (by omega)), fun _ => ?_⟩
            refine p_S_cellNotBelow r3 hs hout (fun i' hi' => absurd hi' (ni i')) (fun _ => ?_)
            exact ⟨fun _ => hp, fun c => absurd rfl c⟩
          · rw [wp_M_drop_L21]
            refine ⟨fun c => absurd c (nI_ge (by omega) (by omega)), fun _ => ⟨fun c => absurd c (by decide), fun _ => ?_⟩⟩
            refine p_M_ceiling hR (by omega) (fun i' hi' => absurd hi' (ni i')) (fun _ => ?_)
            refine ⟨fun _ => ?_, fun c => absurd rfl c⟩
            rw [wp_M_drop_L21, n_lit0, nI_add]
            exact ⟨fun _ => hp, fun _ => ⟨fun _ => hp, fun c => absurd rfl c⟩⟩
    obtain ⟨r, K2, V2, t2, lh2, mv2, F2, J2, G2, wk2, wv2, p1, p2, p3⟩ := main m 0 K V t F J G lh mv wk wv (by omega) hR0
    refine ⟨r, K2, V2, t2, lh2, mv2, F2, J2, G2, wk2, wv2, p1, fun post hp => ?_, fun post hp => ?_⟩
    · unfold wp_S_drop
      exact ⟨fun c => absurd c c1, fun _ => ⟨fun _ => ⟨_, p2 post hp⟩, fun c => absurd c2 c⟩⟩
    · unfold wp_M_drop
      exact ⟨fun c => absurd c c1, fun _ => ⟨fun _ => ⟨_, p3 post hp⟩, fun c => absurd c2 c⟩⟩
  · refine ⟨-1, K, V, t, lh, mv, F, J, G, wk, wv, hR0, fun post hp => ?_, fun post hp => ?_⟩
    · unfold wp_S_drop; exact ⟨fun _ => hp, fun _ => ⟨fun c => absurd c c2, fun _ => hp⟩⟩
    · unfold wp_M_drop; exact ⟨fun _ => hp, fun _ => ⟨fun c => absurd c c2, fun _ => hp⟩⟩
theorem fill_ok {K V : Nat → Int64} {t l0 : Nat} {F : Nat → Int32} {J G : Nat → Int64} (key step : Int64) (a : Int32) (lh : Int32) (mv : Int64) (wk wv : Nat → Int64) (hR0 : Rl K V t l0 F J G) :
    ∃ (r : Int32) (K2 V2 : Nat → Int64) (t2 : Nat) (lh2 : Int32) (mv2 : Int64) (F2 : Nat → Int32) (J2 G2 wk2 wv2 : Nat → Int64), Rl K2 V2 t2 l0 F2 J2 G2 ∧
      (∀ post : Int32 → (Nat → Int64) → (Nat → Int64) → Int32 → Int32 → Int64 → Prop, post r K2 V2 (nI t2) lh2 mv2 → wp_S_fill K V (nI t) lh mv key step a post) ∧
      (∀ post : Int32 → Int32 → (Nat → Int32) → (Nat → Int64) → (Nat → Int64) → Int32 → Int64 → Int32 → (Nat → Int64) → (Nat → Int64) → Prop, post r (nI (8 * 2 ^ t2)) F2 J2 G2 lh2 mv2 (nI 0) wk2 wv2 → wp_M_fill (nI (8 * 2 ^ t)) F J G lh mv (nI 0) wk wv key step a post) := by
  by_cases c1 : a < 0
  · refine ⟨-1, K, V, t, lh, mv, F, J, G, wk, wv, hR0, fun post hp => ?_, fun post hp => ?_⟩
    · unfold wp_S_fill; exact ⟨fun _ => hp, fun c => absurd c1 c⟩
    · unfold wp_M_fill; exact ⟨fun _ => hp, fun c => absurd c1 c⟩
  by_cases c2 : a ≤ 64
  · obtain ⟨m, hm, rfl⟩ := nI_of2 (n := 64) (M := 64) (by decide) c1 c2
    have main : ∀ k j (x : Int32) (y : Int64) K V t F J G lh mv wk wv, j + k = m → y = key + (nI j).toInt64 * step → Rl K V t l0 F J G →
        ∃ (r : Int32) (K2 V2 : Nat → Int64) (t2 : Nat) (lh2 : Int32) (mv2 : Int64) (F2 : Nat → Int32) (J2 G2 wk2 wv2 : Nat → Int64), Rl K2 V2 t2 l0 F2 J2 G2 ∧
          (∀ post : Int32 → (Nat → Int64) → (Nat → Int64) → Int32 → Int32 → Int64 → Prop, post r K2 V2 (nI t2) lh2 mv2 → wp_S_fill_L20 key step (nI m) post (k + 1) x (nI j) K V (nI t) lh mv) ∧
          (∀ post : Int32 → Int32 → (Nat → Int32) → (Nat → Int64) → (Nat → Int64) → Int32 → Int64 → Int32 → (Nat → Int64) → (Nat → Int64) → Prop, post r (nI (8 * 2 ^ t2)) F2 J2 G2 lh2 mv2 (nI 0) wk2 wv2 → wp_M_fill_L23 step (nI m) post (k + 1) x y (nI j) (nI (8 * 2 ^ t)) F J G lh mv (nI 0) wk wv) := by
      intro k
      induction k with
      | zero =>
        intro j x y K V t F J G lh mv wk wv e ey hR0
        obtain rfl : j = m := by omega
        refine ⟨x, K, V, t, lh, mv, F, J, G, wk, wv, hR0, fun post hp => ?_, fun post hp => ?_⟩
        · rw [wp_S_fill_L20]
          exact ⟨fun _ => hp, fun c => absurd (nI_le (Nat.le_refl _) (by omega)) c⟩
        · rw [wp_M_fill_L23]
          exact ⟨fun _ => hp, fun c => absurd (nI_le (Nat.le_refl _) (by omega)) c⟩
      | succ k ih =>
        intro j x y K V t F J G lh mv wk wv e ey hR0
        obtain ⟨r, K1, V1, t1, lh1, mv1, F1, J1, G1, wk1, wv1, q1, qr, q2, q3⟩ := put_ok (key + (nI j).toInt64 * step) (nI j).toInt64 lh mv wk wv hR0
        by_cases cr : r = -1
        · refine ⟨x, K1, V1, t1, lh1, mv1, F1, J1, G1, wk1, wv1, q1, fun post hp => ?_, fun post hp => ?_⟩
          · rw [wp_S_fill_L20]
            exact ⟨fun c => absurd c (nI_ge (by omega) (by omega)), fun _ => q2 _ ⟨fun _ => hp, fun c => absurd cr c⟩⟩
          · rw [wp_M_fill_L23, ey]
            refine ⟨fun c => absurd c (nI_ge (by omega) (by omega)), fun _ => q3 _ ⟨fun c => ?_, fun _ => hp⟩⟩
            rw [cr] at c
            exact absurd c (by decide)
        · have r0 : 0 ≤ r := by
            rcases qr with z | z | z
            · exact absurd z cr
            · rw [z]; decide
            · rw [z]; decide
          have ey2 : y + step = key + (nI (j + 1)).toInt64 * step := by
            rw [ey, nI_l (by omega), nI_l (by omega), ← lN_1, Int64.add_mul, Int64.one_mul, Int64.add_assoc]
          obtain ⟨r', K2, V2, t2, lh2, mv2, F2, J2, G2, wk2, wv2, p1, p2, p3⟩ := ih (j + 1) (x + r) (y + step) K1 V1 t1 F1 J1 G1 lh1 mv1 wk1 wv1 (by omega) ey2 q1
          refine ⟨r', K2, V2, t2, lh2, mv2, F2, J2, G2, wk2, wv2, p1, fun post hp => ?_, fun post hp => ?_⟩
          · rw [wp_S_fill_L20]
            refine ⟨fun c => absurd c (nI_ge (by omega) (by omega)), fun _ => q2 _ ⟨fun c => absurd c cr, fun _ => ?_⟩⟩
            rw [nI_1]
            exact p2 post hp
          · rw [wp_M_fill_L23]
            refine ⟨fun c => absurd c (nI_ge (by omega) (by omega)), fun _ => ?_⟩
            rw [nI_1]
            have := q3 (fun r_4 ceM_5 fM_6 kM_7 vM_8 wiM_9 moM_10 waM_11 wkM_12 wvM_13 => (0 ≤ r_4 → (wp_M_fill_L23 step (nI m) post (k + 1) (x + r_4) (y + step) (nI (j + 1)) ceM_5 fM_6 kM_7 vM_8 wiM_9 moM_10 waM_11 wkM_12 wvM_13)) ∧ (¬ 0 ≤ r_4 → (post x ceM_5 fM_6 kM_7 vM_8 wiM_9 moM_10 waM_11 wkM_12 wvM_13))) ⟨fun _ => p3 post hp, fun c => absurd r0 c⟩
            rw [← ey] at this
            exact this
    obtain ⟨r, K2, V2, t2, lh2, mv2, F2, J2, G2, wk2, wv2, p1, p2, p3⟩ := main m 0 0 key K V t F J G lh mv wk wv (by omega) (by rw [show (nI 0).toInt64 = 0 from by decide, Int64.zero_mul, Int64.add_zero]) hR0
    refine ⟨r, K2, V2, t2, lh2, mv2, F2, J2, G2, wk2, wv2, p1, fun post hp => ?_, fun post hp => ?_⟩
    · unfold wp_S_fill
      exact ⟨fun c => absurd c c1, fun _ => ⟨fun _ => ⟨_, p2 post hp⟩, fun c => absurd c2 c⟩⟩
    · unfold wp_M_fill
      exact ⟨fun c => absurd c c1, fun _ => ⟨fun _ => ⟨_, p3 post hp⟩, fun c => absurd c2 c⟩⟩
  · refine ⟨-1, K, V, t, lh, mv, F, J, G, wk, wv, hR0, fun post hp => ?_, fun post hp => ?_⟩
    · unfold wp_S_fill; exact ⟨fun _ => hp, fun _ => ⟨fun c => absurd c c2, fun _ => hp⟩⟩
    · unfold wp_M_fill; exact ⟨fun _ => hp, fun _ => ⟨fun c => absurd c c2, fun _ => hp⟩⟩
end
section
/-! The law, in pure words. -/
theorem in_k {i k L : Nat} (h : i + k < L) (hL : L ≤ 3073) : vp_in (nI i + nI k) L := by rw [nI_add]; exact vp_in_nI h (by omega)
theorem n_end {i L : Nat} (hL : L ≤ 3073) (hi : i ≤ 4000) : ((Int32.ofNat L) - 6 < nI i) ↔ L < i + 6 := by
  have e : ((Int32.ofNat L) - 6).toInt = (L : Int) - 6 := pk_sub_toInt (a := L) (b := 6) (by omega) (by decide)
  rw [Int32.lt_iff_toInt_lt, e, nI_toInt (by omega)]
  omega
theorem touched_ok {K : Nat → Int64} {B : Nat → Int32} {F : Nat → Int32} {J : Nat → Int64} {t : Nat} {key : Int64} {b : Int32} {fin : Int32 → (Nat → Int32) → Int32 → Prop} (hR : Rm K F J) (ht : t ≤ 6) (ht1 : 1 ≤ t) (h : ∀ r B2, fin r B2 r) :
    wp_S_touched K B (nI t) key b (fun r B2 => wp_M_touched (nI (8 * 2 ^ t)) F J key b (fun r2 => fin r B2 r2)) := by
  have bad : (b < 1 ∨ ¬ b ≤ 1024) → wp_S_touched K B (nI t) key b (fun r B2 => wp_M_touched (nI (8 * 2 ^ t)) F J key b (fun r2 => fin r B2 r2)) := by
    intro c
    have m : wp_M_touched (nI (8 * 2 ^ t)) F J key b (fun r2 => fin (-1) B r2) := by
      unfold wp_M_touched
      exact ⟨fun _ => h _ _, fun c1 => ⟨fun c2 => by rcases c with c | c; exact absurd c c1; exact absurd c2 c, fun _ => h _ _⟩⟩
    unfold wp_S_touched
    exact ⟨fun _ => m, fun c1 => ⟨fun c2 => by rcases c with c | c; exact absurd c c1; exact absurd c2 c, fun _ => m⟩⟩
  by_cases c1 : b < 1
  · exact bad (Or.inl c1)
  by_cases c2 : b ≤ 1024
  · have c0 : ¬ b < 0 := by
      intro q; apply c1
      rw [Int32.lt_iff_toInt_lt] at q ⊢
      have z0 : (0 : Int32).toInt = 0 := by decide
      have z1 : (1 : Int32).toInt = 1 := by decide
      omega
    obtain ⟨x, hx, rfl⟩ := nI_of2 (n := 1024) (M := 1024) (by decide) c0 c2
    have h1 : 1 ≤ x := by
      rcases Nat.lt_or_ge x 1 with q | q
      · exact absurd (nI_lt (b := 1) q (by decide)) c1
      · exact q
    refine p_S_touched ht ht1 h1 hx (fun B2 => ?_)
    refine p_M_touched hR ht h1 hx ?_
    rw [touched_eq ht h1]
    exact h _ _
  · exact bad (Or.inr c2)
set_option maxHeartbeats 4000000 in
set_option maxRecDepth 100000 in
theorem law_ok {xs : Nat → Int32} {L l0 : Nat} (hL : L ≤ 3073) : ∀ (k i : Nat) (K V : Nat → Int64) (B : Nat → Int32) (t : Nat) (lh : Int32) (mv : Int64) (F : Nat → Int32) (J G wk wv : Nat → Int64), L < i + 6 + 6 * k → i ≤ 4000 → Rl K V t l0 F J G →
    wp_L_loop xs L (nI l0) (nI (8 * 2 ^ l0)) (k + 1) (nI i) K V B (nI t) lh mv (nI (8 * 2 ^ t)) F J G lh mv (nI 0) wk wv := by
  intro k
  induction k with
  | zero =>
    intro i K V B t lh mv F J G wk wv hk hi hR
    rw [wp_L_loop]
    exact ⟨fun _ => trivial, fun c => absurd ((n_end hL hi).mpr (by omega)) c⟩
  | succ k ih =>
    intro i K V B t lh mv F J G wk wv hk hi hR
    rcases Nat.lt_or_ge L (i + 6) with q | q
    · rw [wp_L_loop]
      exact ⟨fun _ => trivial, fun c => absurd ((n_end hL hi).mpr q) c⟩
    have nxt : nI i + 6 = nI (i + 6) := nI_add i 6
    have goon : ∀ (K V : Nat → Int64) (B : Nat → Int32) (t : Nat) (lh : Int32) (mv : Int64) (F : Nat → Int32) (J G wk wv : Nat → Int64), Rl K V t l0 F J G → wp_L_loop xs L (nI l0) (nI (8 * 2 ^ l0)) (k + 1) (nI i + 6) K V B (nI t) lh mv (nI (8 * 2 ^ t)) F J G lh mv (nI 0) wk wv := by
      intro K V B t lh mv F J G wk wv hR
      rw [nxt]
      exact ih (i + 6) K V B t lh mv F J G wk wv (by omega) (by omega) hR
    obtain ⟨r1, r2, r3, hs, hout, hRm, hV⟩ := id hR
    have h6 := n_p6 r3
    have i0 : vp_in (nI i) L := vp_in_nI (by omega) (by omega)
    have i1 : vp_in (nI i + 1) L := in_k (k := 1) (by omega) hL
    have i2 : vp_in (nI i + 2) L := in_k (k := 2) (by omega) hL
    have i3 : vp_in (nI i + 3) L := in_k (k := 3) (by omega) hL
    have i4 : vp_in (nI i + 4) L := in_k (k := 4) (by omega) hL
    have i5 : vp_in (nI i + 5) L := in_k (k := 5) (by omega) hL
    have stay := goon K V B t lh mv F J G wk wv hR
    rw [wp_L_loop]
    refine ⟨fun c => absurd ((n_end hL hi).mp c) (by omega), fun _ => ⟨i0, ?_⟩⟩
    refine ⟨fun _ => ?_, fun _ => ?_, fun _ => ?_, fun _ => ?_, fun _ => ?_, fun _ => ?_, fun _ => ?_, fun _ => ?_, fun _ => ?_, fun _ => ?_, fun _ => ?_, fun _ => ?_, fun _ => ?_, fun _ => ?_, fun _ => ?_, fun _ => ?_, fun _ => ?_, fun _ => ?_, fun _ => ?_, stay⟩
    · refine ⟨i1, i2, i3, i4, ?_⟩
      obtain ⟨r, K2, V2, t2, lh2, mv2, F2, J2, G2, wk2, wv2, p1, pr, p2, p3⟩ := put_ok (((xs (nI i + 1).toNatClampNeg).toInt64 <<< ((32 : Int32).toInt64 &&& 63)) ||| ((xs (nI i + 2).toNatClampNeg).toInt64 &&& 4294967295)) (((xs (nI i + 3).toNatClampNeg).toInt64 <<< ((32 : Int32).toInt64 &&& 63)) ||| ((xs (nI i + 4).toNatClampNeg).toInt64 &&& 4294967295)) lh mv wk wv hR
      refine p2 _ (p3 _ ?_)
      exact ⟨fun _ => goon K2 V2 B t2 lh2 mv2 F2 J2 G2 wk2 wv2 p1, fun c => absurd rfl c⟩
    · refine ⟨i1, i2, i3, i4, i5, ?_⟩
      obtain ⟨r, K2, V2, t2, lh2, mv2, F2, J2, G2, wk2, wv2, p1, p2, p3⟩ := fill_ok (((xs (nI i + 1).toNatClampNeg).toInt64 <<< ((32 : Int32).toInt64 &&& 63)) ||| ((xs (nI i + 2).toNatClampNeg).toInt64 &&& 4294967295)) (((xs (nI i + 3).toNatClampNeg).toInt64 <<< ((32 : Int32).toInt64 &&& 63)) ||| ((xs (nI i + 4).toNatClampNeg).toInt64 &&& 4294967295)) (xs (nI i + 5).toNatClampNeg) lh mv wk wv hR
      refine p2 _ (p3 _ ?_)
      exact ⟨fun _ => goon K2 V2 B t2 lh2 mv2 F2 J2 G2 wk2 wv2 p1, fun c => absurd rfl c⟩
    · refine ⟨i1, i2, ?_⟩
      obtain ⟨r, K2, V2, t2, lh2, mv2, F2, J2, G2, wk2, wv2, p1, p2, p3⟩ := remove_ok (((xs (nI i + 1).toNatClampNeg).toInt64 <<< ((32 : Int32).toInt64 &&& 63)) ||| ((xs (nI i + 2).toNatClampNeg).toInt64 &&& 4294967295)) lh mv wk wv hR
      refine p2 _ (p3 _ ?_)
      exact ⟨fun _ => goon K2 V2 B t2 lh2 mv2 F2 J2 G2 wk2 wv2 p1, fun c => absurd rfl c⟩
    · refine ⟨i1, i2, i3, ?_⟩
      obtain ⟨r, K2, V2, t2, lh2, mv2, F2, J2, G2, wk2, wv2, p1, p2, p3⟩ := drop_ok (((xs (nI i + 1).toNatClampNeg).toInt64 <<< ((32 : Int32).toInt64 &&& 63)) ||| ((xs (nI i + 2).toNatClampNeg).toInt64 &&& 4294967295)) (xs (nI i + 3).toNatClampNeg) lh mv wk wv hR
      refine p2 _ (p3 _ ?_)
      exact ⟨fun _ => goon K2 V2 B t2 lh2 mv2 F2 J2 G2 wk2 wv2 p1, fun c => absurd rfl c⟩
    · refine ⟨i1, i2, ?_⟩
      refine p_S_has r3 hs hout (fun c => ?_) (fun c => ?_)
      · exact p_M_has hRm (by omega) (fun _ => ⟨fun _ => stay, fun c => absurd rfl c⟩) (fun d => by obtain ⟨j, a1, a2, a3⟩ := c; exact absurd a3 (d j a1 a2))
      · exact p_M_has hRm (by omega) (fun d => by obtain ⟨j, a1, a2, a3⟩ := d; exact absurd a3 (c j a1 a2)) (fun _ => ⟨fun _ => stay, fun c => absurd rfl c⟩)
    · refine ⟨i1, i2, ?_⟩
      refine p_S_get r3 hs hout (fun j a1 a2 a3 => ?_) (fun c => ?_)
      · refine p_M_get hRm hV (by omega) (fun j2 b1 b2 b3 => ?_) (fun d => absurd a3 (d j a1 a2))
        obtain rfl := Rl_uniq hR a1 b1 a2 b2 (a3.trans b3.symm)
        exact ⟨fun _ => stay, fun c => absurd rfl c⟩
      · exact p_M_get hRm hV (by omega) (fun j2 b1 b2 b3 => absurd b3 (c j2 b1 b2)) (fun _ => ⟨fun _ => stay, fun c => absurd rfl c⟩)
    · refine ⟨i1, i2, ?_⟩
      exact p_S_floor r3 (p_M_floor hRm (by omega) ⟨fun _ => stay, fun c => absurd rfl c⟩)
    · refine ⟨i1, i2, ?_⟩
      refine p_S_ceiling r3 hs hout (fun j hj => ?_) (fun c => ?_)
      · refine p_M_ceiling hRm (by omega) (fun j2 hj2 => ?_) (fun d => absurd (d j hj.1 hj.2.1) (l_nlt.mpr hj.2.2.1))
        obtain rfl : j2 = j := by
          rcases Nat.lt_trichotomy j2 j with y | y | y
          · exact absurd (hj.2.2.2 j2 y hj2.2.1) (l_nlt.mpr hj2.2.2.1)
          · exact y
          · exact absurd (hj2.2.2.2 j y hj.2.1) (l_nlt.mpr hj.2.2.1)
        exact ⟨fun _ => stay, fun c => absurd rfl c⟩
      · exact p_M_ceiling hRm (by omega) (fun j hj => absurd (c j hj.1 hj.2.1) (l_nlt.mpr hj.2.2.1)) (fun _ => ⟨fun _ => stay, fun c => absurd rfl c⟩)
    · refine ⟨i1, ?_⟩
      exact p_S_select r3 (p_M_select hRm (by omega) ⟨fun _ => stay, fun c => absurd rfl c⟩)
    · refine ⟨i1, i2, i3, i4, ?_⟩
      exact p_S_count r3 (p_M_count hRm (by omega) ⟨fun _ => stay, fun c => absurd rfl c⟩)
    · refine ⟨i1, i2, i3, i4, ?_⟩
      exact p_S_sum r3 (p_M_sum hRm hV (by omega) ⟨fun _ => stay, fun c => absurd rfl c⟩)
    · exact p_S_size r3 (p_M_size hRm (by omega) ⟨fun _ => stay, fun c => absurd rfl c⟩)
    · refine p_S_cells r3 ?_
      unfold wp_M_cells
      exact ⟨fun _ => stay, fun c => absurd rfl c⟩
    · refine ⟨i1, ?_⟩
      obtain ⟨r, q1, q2⟩ := p_cellKey (a := (xs (nI i + 1).toNatClampNeg)) hRm r3
      exact q1 _ (q2 _ ⟨fun _ => stay, fun c => absurd rfl c⟩)
    · refine ⟨i1, ?_⟩
      obtain ⟨r, q1, q2⟩ := p_place (a := (xs (nI i + 1).toNatClampNeg)) r3
      exact q1 _ (q2 _ ⟨fun _ => stay, fun c => absurd rfl c⟩)
    · refine ⟨i1, ?_⟩
      obtain ⟨r, q1, q2⟩ := p_borne (a := (xs (nI i + 1).toNatClampNeg)) hRm r3 (by omega)
      exact q1 _ (q2 _ ⟨fun _ => stay, fun c => absurd rfl c⟩)
    · refine ⟨i1, i2, i3, ?_⟩
      refine touched_ok (b := (xs (nI i + 3).toNatClampNeg)) hRm r3 (by omega) (fun r B2 => ?_)
      exact ⟨fun _ => goon K V B2 t lh mv F J G wk wv hR, fun c => absurd rfl c⟩
    · unfold wp_S_window wp_M_window
      exact ⟨fun _ => stay, fun c => absurd rfl c⟩
    · unfold wp_S_moved wp_M_moved
      exact ⟨fun _ => stay, fun c => absurd rfl c⟩
end
section
theorem dX0_init_0 : decode cX0_init 0 = .ok (.aload_n 0, 1) := by decide +kernel
theorem dX0_init_1 : decode cX0_init 1 = .ok (.invokespecial 3, 3) := by decide +kernel
theorem dX0_init_4 : decode cX0_init 4 = .ok (.aload_n 0, 1) := by decide +kernel
theorem dX0_init_5 : decode cX0_init 5 = .ok (.sipush 512, 3) := by decide +kernel
theorem dX0_init_8 : decode cX0_init 8 = .ok (.newarray .long, 2) := by decide +kernel
theorem dX0_init_10 : decode cX0_init 10 = .ok (.putfield 9, 3) := by decide +kernel
theorem dX0_init_13 : decode cX0_init 13 = .ok (.aload_n 0, 1) := by decide +kernel
theorem dX0_init_14 : decode cX0_init 14 = .ok (.getfield 9, 3) := by decide +kernel
theorem dX0_init_17 : decode cX0_init 17 = .ok (.ldc2_w 13, 3) := by decide +kernel
theorem dX0_init_20 : decode cX0_init 20 = .ok (.invokestatic 15, 3) := by decide +kernel
theorem dX0_init_23 : decode cX0_init 23 = .ok (.aload_n 0, 1) := by decide +kernel
theorem dX0_init_24 : decode cX0_init 24 = .ok (.sipush 512, 3) := by decide +kernel
theorem dX0_init_27 : decode cX0_init 27 = .ok (.newarray .long, 2) := by decide +kernel
theorem dX0_init_29 : decode cX0_init 29 = .ok (.putfield 21, 3) := by decide +kernel
theorem dX0_init_32 : decode cX0_init 32 = .ok (.aload_n 0, 1) := by decide +kernel
theorem dX0_init_33 : decode cX0_init 33 = .ok (.bipush 14, 2) := by decide +kernel
theorem dX0_init_35 : decode cX0_init 35 = .ok (.newarray .int, 2) := by decide +kernel
theorem dX0_init_37 : decode cX0_init 37 = .ok (.putfield 24, 3) := by decide +kernel
theorem dX0_init_40 : decode cX0_init 40 = .ok (.aload_n 0, 1) := by decide +kernel
theorem dX0_init_41 : decode cX0_init 41 = .ok (.iload_n 1, 1) := by decide +kernel
theorem dX0_init_42 : decode cX0_init 42 = .ok (.bipush 64, 2) := by decide +kernel
theorem dX0_init_44 : decode cX0_init 44 = .ok (.if_icmp .ne 7, 3) := by decide +kernel
theorem dX0_init_47 : decode cX0_init 47 = .ok (.iconst 3, 1) := by decide +kernel
theorem dX0_init_48 : decode cX0_init 48 = .ok (.goto 14, 3) := by decide +kernel
theorem dX0_init_51 : decode cX0_init 51 = .ok (.iload_n 1, 1) := by decide +kernel
theorem dX0_init_52 : decode cX0_init 52 = .ok (.bipush 32, 2) := by decide +kernel
theorem dX0_init_54 : decode cX0_init 54 = .ok (.if_icmp .ne 7, 3) := by decide +kernel
theorem dX0_init_57 : decode cX0_init 57 = .ok (.iconst 2, 1) := by decide +kernel
theorem dX0_init_58 : decode cX0_init 58 = .ok (.goto 4, 3) := by decide +kernel
theorem dX0_init_61 : decode cX0_init 61 = .ok (.iconst 1, 1) := by decide +kernel
theorem dX0_init_62 : decode cX0_init 62 = .ok (.putfield 28, 3) := by decide +kernel
theorem dX0_init_65 : decode cX0_init 65 = .ok (.aload_n 0, 1) := by decide +kernel
theorem dX0_init_66 : decode cX0_init 66 = .ok (.aload_n 0, 1) := by decide +kernel
theorem dX0_init_67 : decode cX0_init 67 = .ok (.getfield 28, 3) := by decide +kernel
theorem dX0_init_70 : decode cX0_init 70 = .ok (.putfield 32, 3) := by decide +kernel
theorem dX0_init_73 : decode cX0_init 73 = .ok (.aload_n 0, 1) := by decide +kernel
theorem dX0_init_74 : decode cX0_init 74 = .ok (.iconst (-1), 1) := by decide +kernel
theorem dX0_init_75 : decode cX0_init 75 = .ok (.putfield 35, 3) := by decide +kernel
theorem dX0_init_78 : decode cX0_init 78 = .ok (.aload_n 0, 1) := by decide +kernel
theorem dX0_init_79 : decode cX0_init 79 = .ok (.lconst 0, 1) := by decide +kernel
theorem dX0_init_80 : decode cX0_init 80 = .ok (.putfield 38, 3) := by decide +kernel
theorem dX0_init_83 : decode cX0_init 83 = .ok (.return_, 1) := by decide +kernel
theorem dX0_put_0 : decode cX0_put 0 = .ok (.lload_n 1, 1) := by decide +kernel
theorem dX0_put_1 : decode cX0_put 1 = .ok (.ldc2_w 13, 3) := by decide +kernel
theorem dX0_put_4 : decode cX0_put 4 = .ok (.lcmp, 1) := by decide +kernel
theorem dX0_put_5 : decode cX0_put 5 = .ok (.ifCond .ne 5, 3) := by decide +kernel
theorem dX0_put_8 : decode cX0_put 8 = .ok (.iconst (-1), 1) := by decide +kernel
theorem dX0_put_9 : decode cX0_put 9 = .ok (.ireturn, 1) := by decide +kernel
theorem dX0_put_10 : decode cX0_put 10 = .ok (.aload_n 0, 1) := by decide +kernel
theorem dX0_put_11 : decode cX0_put 11 = .ok (.lload_n 1, 1) := by decide +kernel
theorem dX0_put_12 : decode cX0_put 12 = .ok (.invokevirtual 42, 3) := by decide +kernel
theorem dX0_put_15 : decode cX0_put 15 = .ok (.istore 5, 2) := by decide +kernel
theorem dX0_put_17 : decode cX0_put 17 = .ok (.iload 5, 2) := by decide +kernel
theorem dX0_put_19 : decode cX0_put 19 = .ok (.iconst (-1), 1) := by decide +kernel
theorem dX0_put_20 : decode cX0_put 20 = .ok (.if_icmp .eq 13, 3) := by decide +kernel
theorem dX0_put_23 : decode cX0_put 23 = .ok (.aload_n 0, 1) := by decide +kernel
theorem dX0_put_24 : decode cX0_put 24 = .ok (.getfield 21, 3) := by decide +kernel
theorem dX0_put_27 : decode cX0_put 27 = .ok (.iload 5, 2) := by decide +kernel
theorem dX0_put_29 : decode cX0_put 29 = .ok (.lload_n 3, 1) := by decide +kernel
theorem dX0_put_30 : decode cX0_put 30 = .ok (.lastore, 1) := by decide +kernel
theorem dX0_put_31 : decode cX0_put 31 = .ok (.iconst 0, 1) := by decide +kernel
theorem dX0_put_32 : decode cX0_put 32 = .ok (.ireturn, 1) := by decide +kernel
theorem dX0_put_33 : decode cX0_put 33 = .ok (.aload_n 0, 1) := by decide +kernel
theorem dX0_put_34 : decode cX0_put 34 = .ok (.lload_n 1, 1) := by decide +kernel
theorem dX0_put_35 : decode cX0_put 35 = .ok (.lload_n 3, 1) := by decide +kernel
theorem dX0_put_36 : decode cX0_put 36 = .ok (.invokevirtual 46, 3) := by decide +kernel
theorem dX0_put_39 : decode cX0_put 39 = .ok (.ifCond .eq 7, 3) := by decide +kernel
theorem dX0_put_42 : decode cX0_put 42 = .ok (.iconst 1, 1) := by decide +kernel
theorem dX0_put_43 : decode cX0_put 43 = .ok (.goto 4, 3) := by decide +kernel
theorem dX0_put_46 : decode cX0_put 46 = .ok (.iconst (-1), 1) := by decide +kernel
theorem dX0_put_47 : decode cX0_put 47 = .ok (.ireturn, 1) := by decide +kernel
theorem dX0_fill_0 : decode cX0_fill 0 = .ok (.iload 5, 2) := by decide +kernel
theorem dX0_fill_2 : decode cX0_fill 2 = .ok (.ifCond .lt 10, 3) := by decide +kernel
theorem dX0_fill_5 : decode cX0_fill 5 = .ok (.iload 5, 2) := by decide +kernel
theorem dX0_fill_7 : decode cX0_fill 7 = .ok (.bipush 64, 2) := by decide +kernel
theorem dX0_fill_9 : decode cX0_fill 9 = .ok (.if_icmp .le 5, 3) := by decide +kernel
theorem dX0_fill_12 : decode cX0_fill 12 = .ok (.iconst (-1), 1) := by decide +kernel
theorem dX0_fill_13 : decode cX0_fill 13 = .ok (.ireturn, 1) := by decide +kernel
theorem dX0_fill_14 : decode cX0_fill 14 = .ok (.iconst 0, 1) := by decide +kernel
theorem dX0_fill_15 : decode cX0_fill 15 = .ok (.istore 6, 2) := by decide +kernel
theorem dX0_fill_17 : decode cX0_fill 17 = .ok (.iconst 0, 1) := by decide +kernel
theorem dX0_fill_18 : decode cX0_fill 18 = .ok (.istore 7, 2) := by decide +kernel
theorem dX0_fill_20 : decode cX0_fill 20 = .ok (.iload 7, 2) := by decide +kernel
theorem dX0_fill_22 : decode cX0_fill 22 = .ok (.iload 5, 2) := by decide +kernel
theorem dX0_fill_24 : decode cX0_fill 24 = .ok (.if_icmp .ge 41, 3) := by decide +kernel
theorem dX0_fill_27 : decode cX0_fill 27 = .ok (.aload_n 0, 1) := by decide +kernel
theorem dX0_fill_28 : decode cX0_fill 28 = .ok (.lload_n 1, 1) := by decide +kernel
theorem dX0_fill_29 : decode cX0_fill 29 = .ok (.iload 7, 2) := by decide +kernel
theorem dX0_fill_31 : decode cX0_fill 31 = .ok (.i2l, 1) := by decide +kernel
theorem dX0_fill_32 : decode cX0_fill 32 = .ok (.lload_n 3, 1) := by decide +kernel
theorem dX0_fill_33 : decode cX0_fill 33 = .ok (.lmul, 1) := by decide +kernel
theorem dX0_fill_34 : decode cX0_fill 34 = .ok (.ladd, 1) := by decide +kernel
theorem dX0_fill_35 : decode cX0_fill 35 = .ok (.iload 7, 2) := by decide +kernel
theorem dX0_fill_37 : decode cX0_fill 37 = .ok (.i2l, 1) := by decide +kernel
theorem dX0_fill_38 : decode cX0_fill 38 = .ok (.invokevirtual 50, 3) := by decide +kernel
theorem dX0_fill_41 : decode cX0_fill 41 = .ok (.istore 8, 2) := by decide +kernel
theorem dX0_fill_43 : decode cX0_fill 43 = .ok (.iload 8, 2) := by decide +kernel
theorem dX0_fill_45 : decode cX0_fill 45 = .ok (.iconst (-1), 1) := by decide +kernel
theorem dX0_fill_46 : decode cX0_fill 46 = .ok (.if_icmp .ne 6, 3) := by decide +kernel
theorem dX0_fill_49 : decode cX0_fill 49 = .ok (.iload 6, 2) := by decide +kernel
theorem dX0_fill_51 : decode cX0_fill 51 = .ok (.ireturn, 1) := by decide +kernel
theorem dX0_fill_52 : decode cX0_fill 52 = .ok (.iload 6, 2) := by decide +kernel
theorem dX0_fill_54 : decode cX0_fill 54 = .ok (.iload 8, 2) := by decide +kernel
theorem dX0_fill_56 : decode cX0_fill 56 = .ok (.iadd, 1) := by decide +kernel
theorem dX0_fill_57 : decode cX0_fill 57 = .ok (.istore 6, 2) := by decide +kernel
theorem dX0_fill_59 : decode cX0_fill 59 = .ok (.iinc 7 1, 3) := by decide +kernel
theorem dX0_fill_62 : decode cX0_fill 62 = .ok (.goto (-42), 3) := by decide +kernel
theorem dX0_fill_65 : decode cX0_fill 65 = .ok (.iload 6, 2) := by decide +kernel
theorem dX0_fill_67 : decode cX0_fill 67 = .ok (.ireturn, 1) := by decide +kernel
theorem dX0_remove_0 : decode cX0_remove 0 = .ok (.aload_n 0, 1) := by decide +kernel
theorem dX0_remove_1 : decode cX0_remove 1 = .ok (.lload_n 1, 1) := by decide +kernel
theorem dX0_remove_2 : decode cX0_remove 2 = .ok (.invokevirtual 42, 3) := by decide +kernel
theorem dX0_remove_5 : decode cX0_remove 5 = .ok (.istore_n 3, 1) := by decide +kernel
theorem dX0_remove_6 : decode cX0_remove 6 = .ok (.iload_n 3, 1) := by decide +kernel
theorem dX0_remove_7 : decode cX0_remove 7 = .ok (.iconst (-1), 1) := by decide +kernel
theorem dX0_remove_8 : decode cX0_remove 8 = .ok (.if_icmp .ne 5, 3) := by decide +kernel
theorem dX0_remove_11 : decode cX0_remove 11 = .ok (.iconst 0, 1) := by decide +kernel
theorem dX0_remove_12 : decode cX0_remove 12 = .ok (.ireturn, 1) := by decide +kernel
theorem dX0_remove_13 : decode cX0_remove 13 = .ok (.aload_n 0, 1) := by decide +kernel
theorem dX0_remove_14 : decode cX0_remove 14 = .ok (.iload_n 3, 1) := by decide +kernel
theorem dX0_remove_15 : decode cX0_remove 15 = .ok (.invokevirtual 54, 3) := by decide +kernel
theorem dX0_remove_18 : decode cX0_remove 18 = .ok (.iconst 1, 1) := by decide +kernel
theorem dX0_remove_19 : decode cX0_remove 19 = .ok (.ireturn, 1) := by decide +kernel
theorem dX0_drop_0 : decode cX0_drop 0 = .ok (.iload_n 3, 1) := by decide +kernel
theorem dX0_drop_1 : decode cX0_drop 1 = .ok (.ifCond .lt 9, 3) := by decide +kernel
theorem dX0_drop_4 : decode cX0_drop 4 = .ok (.iload_n 3, 1) := by decide +kernel
theorem dX0_drop_5 : decode cX0_drop 5 = .ok (.bipush 64, 2) := by decide +kernel
theorem dX0_drop_7 : decode cX0_drop 7 = .ok (.if_icmp .le 5, 3) := by decide +kernel
theorem dX0_drop_10 : decode cX0_drop 10 = .ok (.iconst (-1), 1) := by decide +kernel
theorem dX0_drop_11 : decode cX0_drop 11 = .ok (.ireturn, 1) := by decide +kernel
theorem dX0_drop_12 : decode cX0_drop 12 = .ok (.iconst 0, 1) := by decide +kernel
theorem dX0_drop_13 : decode cX0_drop 13 = .ok (.istore 4, 2) := by decide +kernel
theorem dX0_drop_15 : decode cX0_drop 15 = .ok (.iload 4, 2) := by decide +kernel
theorem dX0_drop_17 : decode cX0_drop 17 = .ok (.iload_n 3, 1) := by decide +kernel
theorem dX0_drop_18 : decode cX0_drop 18 = .ok (.if_icmp .ge 31, 3) := by decide +kernel
theorem dX0_drop_21 : decode cX0_drop 21 = .ok (.aload_n 0, 1) := by decide +kernel
theorem dX0_drop_22 : decode cX0_drop 22 = .ok (.lload_n 1, 1) := by decide +kernel
theorem dX0_drop_23 : decode cX0_drop 23 = .ok (.invokevirtual 58, 3) := by decide +kernel
theorem dX0_drop_26 : decode cX0_drop 26 = .ok (.istore 5, 2) := by decide +kernel
theorem dX0_drop_28 : decode cX0_drop 28 = .ok (.iload 5, 2) := by decide +kernel
theorem dX0_drop_30 : decode cX0_drop 30 = .ok (.iconst (-1), 1) := by decide +kernel
theorem dX0_drop_31 : decode cX0_drop 31 = .ok (.if_icmp .ne 6, 3) := by decide +kernel
theorem dX0_drop_34 : decode cX0_drop 34 = .ok (.iload 4, 2) := by decide +kernel
theorem dX0_drop_36 : decode cX0_drop 36 = .ok (.ireturn, 1) := by decide +kernel
theorem dX0_drop_37 : decode cX0_drop 37 = .ok (.aload_n 0, 1) := by decide +kernel
theorem dX0_drop_38 : decode cX0_drop 38 = .ok (.iload 5, 2) := by decide +kernel
theorem dX0_drop_40 : decode cX0_drop 40 = .ok (.invokevirtual 54, 3) := by decide +kernel
theorem dX0_drop_43 : decode cX0_drop 43 = .ok (.iinc 4 1, 3) := by decide +kernel
theorem dX0_drop_46 : decode cX0_drop 46 = .ok (.goto (-31), 3) := by decide +kernel
theorem dX0_drop_49 : decode cX0_drop 49 = .ok (.iload_n 3, 1) := by decide +kernel
theorem dX0_drop_50 : decode cX0_drop 50 = .ok (.ireturn, 1) := by decide +kernel
theorem dX0_has_0 : decode cX0_has 0 = .ok (.aload_n 0, 1) := by decide +kernel
theorem dX0_has_1 : decode cX0_has 1 = .ok (.lload_n 1, 1) := by decide +kernel
theorem dX0_has_2 : decode cX0_has 2 = .ok (.invokevirtual 42, 3) := by decide +kernel
theorem dX0_has_5 : decode cX0_has 5 = .ok (.iconst (-1), 1) := by decide +kernel
theorem dX0_has_6 : decode cX0_has 6 = .ok (.if_icmp .eq 7, 3) := by decide +kernel
theorem dX0_has_9 : decode cX0_has 9 = .ok (.iconst 1, 1) := by decide +kernel
theorem dX0_has_10 : decode cX0_has 10 = .ok (.goto 4, 3) := by decide +kernel
theorem dX0_has_13 : decode cX0_has 13 = .ok (.iconst 0, 1) := by decide +kernel
theorem dX0_has_14 : decode cX0_has 14 = .ok (.ireturn, 1) := by decide +kernel
theorem dX0_get_0 : decode cX0_get 0 = .ok (.aload_n 0, 1) := by decide +kernel
theorem dX0_get_1 : decode cX0_get 1 = .ok (.lload_n 1, 1) := by decide +kernel
theorem dX0_get_2 : decode cX0_get 2 = .ok (.invokevirtual 42, 3) := by decide +kernel
theorem dX0_get_5 : decode cX0_get 5 = .ok (.istore_n 3, 1) := by decide +kernel
theorem dX0_get_6 : decode cX0_get 6 = .ok (.iload_n 3, 1) := by decide +kernel
theorem dX0_get_7 : decode cX0_get 7 = .ok (.iconst (-1), 1) := by decide +kernel
theorem dX0_get_8 : decode cX0_get 8 = .ok (.if_icmp .ne 7, 3) := by decide +kernel
theorem dX0_get_11 : decode cX0_get 11 = .ok (.lconst 0, 1) := by decide +kernel
theorem dX0_get_12 : decode cX0_get 12 = .ok (.goto 9, 3) := by decide +kernel
theorem dX0_get_15 : decode cX0_get 15 = .ok (.aload_n 0, 1) := by decide +kernel
theorem dX0_get_16 : decode cX0_get 16 = .ok (.getfield 21, 3) := by decide +kernel
theorem dX0_get_19 : decode cX0_get 19 = .ok (.iload_n 3, 1) := by decide +kernel
theorem dX0_get_20 : decode cX0_get 20 = .ok (.laload, 1) := by decide +kernel
theorem dX0_get_21 : decode cX0_get 21 = .ok (.lreturn, 1) := by decide +kernel
theorem dX0_floor_0 : decode cX0_floor 0 = .ok (.aload_n 0, 1) := by decide +kernel
theorem dX0_floor_1 : decode cX0_floor 1 = .ok (.invokevirtual 61, 3) := by decide +kernel
theorem dX0_floor_4 : decode cX0_floor 4 = .ok (.iconst 1, 1) := by decide +kernel
theorem dX0_floor_5 : decode cX0_floor 5 = .ok (.isub, 1) := by decide +kernel
theorem dX0_floor_6 : decode cX0_floor 6 = .ok (.istore_n 3, 1) := by decide +kernel
theorem dX0_floor_7 : decode cX0_floor 7 = .ok (.iload_n 3, 1) := by decide +kernel
theorem dX0_floor_8 : decode cX0_floor 8 = .ok (.ifCond .lt 40, 3) := by decide +kernel
theorem dX0_floor_11 : decode cX0_floor 11 = .ok (.aload_n 0, 1) := by decide +kernel
theorem dX0_floor_12 : decode cX0_floor 12 = .ok (.getfield 9, 3) := by decide +kernel
theorem dX0_floor_15 : decode cX0_floor 15 = .ok (.iload_n 3, 1) := by decide +kernel
theorem dX0_floor_16 : decode cX0_floor 16 = .ok (.laload, 1) := by decide +kernel
theorem dX0_floor_17 : decode cX0_floor 17 = .ok (.ldc2_w 13, 3) := by decide +kernel
theorem dX0_floor_20 : decode cX0_floor 20 = .ok (.lcmp, 1) := by decide +kernel
theorem dX0_floor_21 : decode cX0_floor 21 = .ok (.ifCond .eq 21, 3) := by decide +kernel
theorem dX0_floor_24 : decode cX0_floor 24 = .ok (.aload_n 0, 1) := by decide +kernel
theorem dX0_floor_25 : decode cX0_floor 25 = .ok (.getfield 9, 3) := by decide +kernel
theorem dX0_floor_28 : decode cX0_floor 28 = .ok (.iload_n 3, 1) := by decide +kernel
theorem dX0_floor_29 : decode cX0_floor 29 = .ok (.laload, 1) := by decide +kernel
theorem dX0_floor_30 : decode cX0_floor 30 = .ok (.lload_n 1, 1) := by decide +kernel
theorem dX0_floor_31 : decode cX0_floor 31 = .ok (.lcmp, 1) := by decide +kernel
theorem dX0_floor_32 : decode cX0_floor 32 = .ok (.ifCond .gt 10, 3) := by decide +kernel
theorem dX0_floor_35 : decode cX0_floor 35 = .ok (.aload_n 0, 1) := by decide +kernel
theorem dX0_floor_36 : decode cX0_floor 36 = .ok (.getfield 9, 3) := by decide +kernel
theorem dX0_floor_39 : decode cX0_floor 39 = .ok (.iload_n 3, 1) := by decide +kernel
theorem dX0_floor_40 : decode cX0_floor 40 = .ok (.laload, 1) := by decide +kernel
theorem dX0_floor_41 : decode cX0_floor 41 = .ok (.lreturn, 1) := by decide +kernel
theorem dX0_floor_42 : decode cX0_floor 42 = .ok (.iinc 3 (-1), 3) := by decide +kernel
theorem dX0_floor_45 : decode cX0_floor 45 = .ok (.goto (-38), 3) := by decide +kernel
theorem dX0_floor_48 : decode cX0_floor 48 = .ok (.ldc2_w 13, 3) := by decide +kernel
theorem dX0_floor_51 : decode cX0_floor 51 = .ok (.lreturn, 1) := by decide +kernel
theorem dX0_ceiling_0 : decode cX0_ceiling 0 = .ok (.aload_n 0, 1) := by decide +kernel
theorem dX0_ceiling_1 : decode cX0_ceiling 1 = .ok (.lload_n 1, 1) := by decide +kernel
theorem dX0_ceiling_2 : decode cX0_ceiling 2 = .ok (.invokevirtual 58, 3) := by decide +kernel
theorem dX0_ceiling_5 : decode cX0_ceiling 5 = .ok (.istore_n 3, 1) := by decide +kernel
theorem dX0_ceiling_6 : decode cX0_ceiling 6 = .ok (.iload_n 3, 1) := by decide +kernel
theorem dX0_ceiling_7 : decode cX0_ceiling 7 = .ok (.iconst (-1), 1) := by decide +kernel
theorem dX0_ceiling_8 : decode cX0_ceiling 8 = .ok (.if_icmp .ne 9, 3) := by decide +kernel
theorem dX0_ceiling_11 : decode cX0_ceiling 11 = .ok (.ldc2_w 13, 3) := by decide +kernel
theorem dX0_ceiling_14 : decode cX0_ceiling 14 = .ok (.goto 9, 3) := by decide +kernel
theorem dX0_ceiling_17 : decode cX0_ceiling 17 = .ok (.aload_n 0, 1) := by decide +kernel
theorem dX0_ceiling_18 : decode cX0_ceiling 18 = .ok (.getfield 9, 3) := by decide +kernel
theorem dX0_ceiling_21 : decode cX0_ceiling 21 = .ok (.iload_n 3, 1) := by decide +kernel
theorem dX0_ceiling_22 : decode cX0_ceiling 22 = .ok (.laload, 1) := by decide +kernel
theorem dX0_ceiling_23 : decode cX0_ceiling 23 = .ok (.lreturn, 1) := by decide +kernel
theorem dX0_select_0 : decode cX0_select 0 = .ok (.iconst 0, 1) := by decide +kernel
theorem dX0_select_1 : decode cX0_select 1 = .ok (.istore_n 2, 1) := by decide +kernel
theorem dX0_select_2 : decode cX0_select 2 = .ok (.iconst 0, 1) := by decide +kernel
theorem dX0_select_3 : decode cX0_select 3 = .ok (.istore_n 3, 1) := by decide +kernel
theorem dX0_select_4 : decode cX0_select 4 = .ok (.iload_n 3, 1) := by decide +kernel
theorem dX0_select_5 : decode cX0_select 5 = .ok (.aload_n 0, 1) := by decide +kernel
theorem dX0_select_6 : decode cX0_select 6 = .ok (.invokevirtual 61, 3) := by decide +kernel
theorem dX0_select_9 : decode cX0_select 9 = .ok (.if_icmp .ge 37, 3) := by decide +kernel
theorem dX0_select_12 : decode cX0_select 12 = .ok (.aload_n 0, 1) := by decide +kernel
theorem dX0_select_13 : decode cX0_select 13 = .ok (.getfield 9, 3) := by decide +kernel
theorem dX0_select_16 : decode cX0_select 16 = .ok (.iload_n 3, 1) := by decide +kernel
theorem dX0_select_17 : decode cX0_select 17 = .ok (.laload, 1) := by decide +kernel
theorem dX0_select_18 : decode cX0_select 18 = .ok (.ldc2_w 13, 3) := by decide +kernel
theorem dX0_select_21 : decode cX0_select 21 = .ok (.lcmp, 1) := by decide +kernel
theorem dX0_select_22 : decode cX0_select 22 = .ok (.ifCond .eq 18, 3) := by decide +kernel
theorem dX0_select_25 : decode cX0_select 25 = .ok (.iload_n 2, 1) := by decide +kernel
theorem dX0_select_26 : decode cX0_select 26 = .ok (.iload_n 1, 1) := by decide +kernel
theorem dX0_select_27 : decode cX0_select 27 = .ok (.if_icmp .ne 10, 3) := by decide +kernel
theorem dX0_select_30 : decode cX0_select 30 = .ok (.aload_n 0, 1) := by decide +kernel
theorem dX0_select_31 : decode cX0_select 31 = .ok (.getfield 9, 3) := by decide +kernel
theorem dX0_select_34 : decode cX0_select 34 = .ok (.iload_n 3, 1) := by decide +kernel
theorem dX0_select_35 : decode cX0_select 35 = .ok (.laload, 1) := by decide +kernel
theorem dX0_select_36 : decode cX0_select 36 = .ok (.lreturn, 1) := by decide +kernel
theorem dX0_select_37 : decode cX0_select 37 = .ok (.iinc 2 1, 3) := by decide +kernel
theorem dX0_select_40 : decode cX0_select 40 = .ok (.iinc 3 1, 3) := by decide +kernel
theorem dX0_select_43 : decode cX0_select 43 = .ok (.goto (-39), 3) := by decide +kernel
theorem dX0_select_46 : decode cX0_select 46 = .ok (.ldc2_w 13, 3) := by decide +kernel
theorem dX0_select_49 : decode cX0_select 49 = .ok (.lreturn, 1) := by decide +kernel
theorem dX0_count_0 : decode cX0_count 0 = .ok (.iconst 0, 1) := by decide +kernel
theorem dX0_count_1 : decode cX0_count 1 = .ok (.istore 5, 2) := by decide +kernel
theorem dX0_count_3 : decode cX0_count 3 = .ok (.iconst 0, 1) := by decide +kernel
theorem dX0_count_4 : decode cX0_count 4 = .ok (.istore 6, 2) := by decide +kernel
theorem dX0_count_6 : decode cX0_count 6 = .ok (.iload 6, 2) := by decide +kernel
theorem dX0_count_8 : decode cX0_count 8 = .ok (.aload_n 0, 1) := by decide +kernel
theorem dX0_count_9 : decode cX0_count 9 = .ok (.invokevirtual 61, 3) := by decide +kernel
theorem dX0_count_12 : decode cX0_count 12 = .ok (.if_icmp .ge 23, 3) := by decide +kernel
theorem dX0_count_15 : decode cX0_count 15 = .ok (.aload_n 0, 1) := by decide +kernel
theorem dX0_count_16 : decode cX0_count 16 = .ok (.iload 6, 2) := by decide +kernel
theorem dX0_count_18 : decode cX0_count 18 = .ok (.lload_n 1, 1) := by decide +kernel
theorem dX0_count_19 : decode cX0_count 19 = .ok (.lload_n 3, 1) := by decide +kernel
theorem dX0_count_20 : decode cX0_count 20 = .ok (.invokevirtual 65, 3) := by decide +kernel
theorem dX0_count_23 : decode cX0_count 23 = .ok (.ifCond .eq 6, 3) := by decide +kernel
theorem dX0_count_26 : decode cX0_count 26 = .ok (.iinc 5 1, 3) := by decide +kernel
theorem dX0_count_29 : decode cX0_count 29 = .ok (.iinc 6 1, 3) := by decide +kernel
theorem dX0_count_32 : decode cX0_count 32 = .ok (.goto (-26), 3) := by decide +kernel
theorem dX0_count_35 : decode cX0_count 35 = .ok (.iload 5, 2) := by decide +kernel
theorem dX0_count_37 : decode cX0_count 37 = .ok (.ireturn, 1) := by decide +kernel
theorem dX0_sum_0 : decode cX0_sum 0 = .ok (.lconst 0, 1) := by decide +kernel
theorem dX0_sum_1 : decode cX0_sum 1 = .ok (.lstore 5, 2) := by decide +kernel
theorem dX0_sum_3 : decode cX0_sum 3 = .ok (.iconst 0, 1) := by decide +kernel
theorem dX0_sum_4 : decode cX0_sum 4 = .ok (.istore 7, 2) := by decide +kernel
theorem dX0_sum_6 : decode cX0_sum 6 = .ok (.iload 7, 2) := by decide +kernel
theorem dX0_sum_8 : decode cX0_sum 8 = .ok (.aload_n 0, 1) := by decide +kernel
theorem dX0_sum_9 : decode cX0_sum 9 = .ok (.invokevirtual 61, 3) := by decide +kernel
theorem dX0_sum_12 : decode cX0_sum 12 = .ok (.if_icmp .ge 32, 3) := by decide +kernel
theorem dX0_sum_15 : decode cX0_sum 15 = .ok (.aload_n 0, 1) := by decide +kernel
theorem dX0_sum_16 : decode cX0_sum 16 = .ok (.iload 7, 2) := by decide +kernel
theorem dX0_sum_18 : decode cX0_sum 18 = .ok (.lload_n 1, 1) := by decide +kernel
theorem dX0_sum_19 : decode cX0_sum 19 = .ok (.lload_n 3, 1) := by decide +kernel
theorem dX0_sum_20 : decode cX0_sum 20 = .ok (.invokevirtual 65, 3) := by decide +kernel
theorem dX0_sum_23 : decode cX0_sum 23 = .ok (.ifCond .eq 15, 3) := by decide +kernel
theorem dX0_sum_26 : decode cX0_sum 26 = .ok (.lload 5, 2) := by decide +kernel
theorem dX0_sum_28 : decode cX0_sum 28 = .ok (.aload_n 0, 1) := by decide +kernel
theorem dX0_sum_29 : decode cX0_sum 29 = .ok (.getfield 21, 3) := by decide +kernel
theorem dX0_sum_32 : decode cX0_sum 32 = .ok (.iload 7, 2) := by decide +kernel
theorem dX0_sum_34 : decode cX0_sum 34 = .ok (.laload, 1) := by decide +kernel
theorem dX0_sum_35 : decode cX0_sum 35 = .ok (.ladd, 1) := by decide +kernel
theorem dX0_sum_36 : decode cX0_sum 36 = .ok (.lstore 5, 2) := by decide +kernel
theorem dX0_sum_38 : decode cX0_sum 38 = .ok (.iinc 7 1, 3) := by decide +kernel
theorem dX0_sum_41 : decode cX0_sum 41 = .ok (.goto (-35), 3) := by decide +kernel
theorem dX0_sum_44 : decode cX0_sum 44 = .ok (.lload 5, 2) := by decide +kernel
theorem dX0_sum_46 : decode cX0_sum 46 = .ok (.lreturn, 1) := by decide +kernel
theorem dX0_size_0 : decode cX0_size 0 = .ok (.aload_n 0, 1) := by decide +kernel
theorem dX0_size_1 : decode cX0_size 1 = .ok (.iconst 0, 1) := by decide +kernel
theorem dX0_size_2 : decode cX0_size 2 = .ok (.aload_n 0, 1) := by decide +kernel
theorem dX0_size_3 : decode cX0_size 3 = .ok (.invokevirtual 61, 3) := by decide +kernel
theorem dX0_size_6 : decode cX0_size 6 = .ok (.invokevirtual 69, 3) := by decide +kernel
theorem dX0_size_9 : decode cX0_size 9 = .ok (.ireturn, 1) := by decide +kernel
theorem dX0_cells_0 : decode cX0_cells 0 = .ok (.aload_n 0, 1) := by decide +kernel
theorem dX0_cells_1 : decode cX0_cells 1 = .ok (.getfield 32, 3) := by decide +kernel
theorem dX0_cells_4 : decode cX0_cells 4 = .ok (.invokestatic 73, 3) := by decide +kernel
theorem dX0_cells_7 : decode cX0_cells 7 = .ok (.ireturn, 1) := by decide +kernel
theorem dX0_cellKey_0 : decode cX0_cellKey 0 = .ok (.iload_n 1, 1) := by decide +kernel
theorem dX0_cellKey_1 : decode cX0_cellKey 1 = .ok (.ifCond .lt 11, 3) := by decide +kernel
theorem dX0_cellKey_4 : decode cX0_cellKey 4 = .ok (.iload_n 1, 1) := by decide +kernel
theorem dX0_cellKey_5 : decode cX0_cellKey 5 = .ok (.aload_n 0, 1) := by decide +kernel
theorem dX0_cellKey_6 : decode cX0_cellKey 6 = .ok (.invokevirtual 61, 3) := by decide +kernel
theorem dX0_cellKey_9 : decode cX0_cellKey 9 = .ok (.if_icmp .lt 9, 3) := by decide +kernel
theorem dX0_cellKey_12 : decode cX0_cellKey 12 = .ok (.ldc2_w 13, 3) := by decide +kernel
theorem dX0_cellKey_15 : decode cX0_cellKey 15 = .ok (.goto 9, 3) := by decide +kernel
theorem dX0_cellKey_18 : decode cX0_cellKey 18 = .ok (.aload_n 0, 1) := by decide +kernel
theorem dX0_cellKey_19 : decode cX0_cellKey 19 = .ok (.getfield 9, 3) := by decide +kernel
theorem dX0_cellKey_22 : decode cX0_cellKey 22 = .ok (.iload_n 1, 1) := by decide +kernel
theorem dX0_cellKey_23 : decode cX0_cellKey 23 = .ok (.laload, 1) := by decide +kernel
theorem dX0_cellKey_24 : decode cX0_cellKey 24 = .ok (.lreturn, 1) := by decide +kernel
theorem dX0_place_0 : decode cX0_place 0 = .ok (.iload_n 1, 1) := by decide +kernel
theorem dX0_place_1 : decode cX0_place 1 = .ok (.iconst 1, 1) := by decide +kernel
theorem dX0_place_2 : decode cX0_place 2 = .ok (.if_icmp .lt 11, 3) := by decide +kernel
theorem dX0_place_5 : decode cX0_place 5 = .ok (.iload_n 1, 1) := by decide +kernel
theorem dX0_place_6 : decode cX0_place 6 = .ok (.aload_n 0, 1) := by decide +kernel
theorem dX0_place_7 : decode cX0_place 7 = .ok (.invokevirtual 77, 3) := by decide +kernel
theorem dX0_place_10 : decode cX0_place 10 = .ok (.if_icmp .lt 7, 3) := by decide +kernel
theorem dX0_place_13 : decode cX0_place 13 = .ok (.iconst (-1), 1) := by decide +kernel
theorem dX0_place_14 : decode cX0_place 14 = .ok (.goto 11, 3) := by decide +kernel
theorem dX0_place_17 : decode cX0_place 17 = .ok (.iload_n 1, 1) := by decide +kernel
theorem dX0_place_18 : decode cX0_place 18 = .ok (.aload_n 0, 1) := by decide +kernel
theorem dX0_place_19 : decode cX0_place 19 = .ok (.getfield 32, 3) := by decide +kernel
theorem dX0_place_22 : decode cX0_place 22 = .ok (.invokestatic 80, 3) := by decide +kernel
theorem dX0_place_25 : decode cX0_place 25 = .ok (.ireturn, 1) := by decide +kernel
theorem dX0_borne_0 : decode cX0_borne 0 = .ok (.iconst 1, 1) := by decide +kernel
theorem dX0_borne_1 : decode cX0_borne 1 = .ok (.istore_n 2, 1) := by decide +kernel
theorem dX0_borne_2 : decode cX0_borne 2 = .ok (.iload_n 2, 1) := by decide +kernel
theorem dX0_borne_3 : decode cX0_borne 3 = .ok (.aload_n 0, 1) := by decide +kernel
theorem dX0_borne_4 : decode cX0_borne 4 = .ok (.invokevirtual 77, 3) := by decide +kernel
theorem dX0_borne_7 : decode cX0_borne 7 = .ok (.if_icmp .ge 27, 3) := by decide +kernel
theorem dX0_borne_10 : decode cX0_borne 10 = .ok (.iload_n 2, 1) := by decide +kernel
theorem dX0_borne_11 : decode cX0_borne 11 = .ok (.aload_n 0, 1) := by decide +kernel
theorem dX0_borne_12 : decode cX0_borne 12 = .ok (.getfield 32, 3) := by decide +kernel
theorem dX0_borne_15 : decode cX0_borne 15 = .ok (.invokestatic 80, 3) := by decide +kernel
theorem dX0_borne_18 : decode cX0_borne 18 = .ok (.iload_n 1, 1) := by decide +kernel
theorem dX0_borne_19 : decode cX0_borne 19 = .ok (.if_icmp .ne 9, 3) := by decide +kernel
theorem dX0_borne_22 : decode cX0_borne 22 = .ok (.aload_n 0, 1) := by decide +kernel
theorem dX0_borne_23 : decode cX0_borne 23 = .ok (.iload_n 2, 1) := by decide +kernel
theorem dX0_borne_24 : decode cX0_borne 24 = .ok (.invokevirtual 83, 3) := by decide +kernel
theorem dX0_borne_27 : decode cX0_borne 27 = .ok (.lreturn, 1) := by decide +kernel
theorem dX0_borne_28 : decode cX0_borne 28 = .ok (.iinc 2 1, 3) := by decide +kernel
theorem dX0_borne_31 : decode cX0_borne 31 = .ok (.goto (-29), 3) := by decide +kernel
theorem dX0_borne_34 : decode cX0_borne 34 = .ok (.ldc2_w 13, 3) := by decide +kernel
theorem dX0_borne_37 : decode cX0_borne 37 = .ok (.lreturn, 1) := by decide +kernel
theorem dX0_touched_0 : decode cX0_touched 0 = .ok (.iload_n 3, 1) := by decide +kernel
theorem dX0_touched_1 : decode cX0_touched 1 = .ok (.iconst 1, 1) := by decide +kernel
theorem dX0_touched_2 : decode cX0_touched 2 = .ok (.if_icmp .lt 10, 3) := by decide +kernel
theorem dX0_touched_5 : decode cX0_touched 5 = .ok (.iload_n 3, 1) := by decide +kernel
theorem dX0_touched_6 : decode cX0_touched 6 = .ok (.sipush 1024, 3) := by decide +kernel
theorem dX0_touched_9 : decode cX0_touched 9 = .ok (.if_icmp .le 5, 3) := by decide +kernel
theorem dX0_touched_12 : decode cX0_touched 12 = .ok (.iconst (-1), 1) := by decide +kernel
theorem dX0_touched_13 : decode cX0_touched 13 = .ok (.ireturn, 1) := by decide +kernel
theorem dX0_touched_14 : decode cX0_touched 14 = .ok (.aload_n 0, 1) := by decide +kernel
theorem dX0_touched_15 : decode cX0_touched 15 = .ok (.lload_n 1, 1) := by decide +kernel
theorem dX0_touched_16 : decode cX0_touched 16 = .ok (.invokevirtual 87, 3) := by decide +kernel
theorem dX0_touched_19 : decode cX0_touched 19 = .ok (.istore 4, 2) := by decide +kernel
theorem dX0_touched_21 : decode cX0_touched 21 = .ok (.iconst 0, 1) := by decide +kernel
theorem dX0_touched_22 : decode cX0_touched 22 = .ok (.istore 5, 2) := by decide +kernel
theorem dX0_touched_24 : decode cX0_touched 24 = .ok (.aload_n 0, 1) := by decide +kernel
theorem dX0_touched_25 : decode cX0_touched 25 = .ok (.invokevirtual 77, 3) := by decide +kernel
theorem dX0_touched_28 : decode cX0_touched 28 = .ok (.iload 4, 2) := by decide +kernel
theorem dX0_touched_30 : decode cX0_touched 30 = .ok (.iadd, 1) := by decide +kernel
theorem dX0_touched_31 : decode cX0_touched 31 = .ok (.iconst 2, 1) := by decide +kernel
theorem dX0_touched_32 : decode cX0_touched 32 = .ok (.idiv, 1) := by decide +kernel
theorem dX0_touched_33 : decode cX0_touched 33 = .ok (.istore 6, 2) := by decide +kernel
theorem dX0_touched_35 : decode cX0_touched 35 = .ok (.iload 6, 2) := by decide +kernel
theorem dX0_touched_37 : decode cX0_touched 37 = .ok (.iconst 1, 1) := by decide +kernel
theorem dX0_touched_38 : decode cX0_touched 38 = .ok (.if_icmp .lt 31, 3) := by decide +kernel
theorem dX0_touched_41 : decode cX0_touched 41 = .ok (.aload_n 0, 1) := by decide +kernel
theorem dX0_touched_42 : decode cX0_touched 42 = .ok (.iload 6, 2) := by decide +kernel
theorem dX0_touched_44 : decode cX0_touched 44 = .ok (.aload_n 0, 1) := by decide +kernel
theorem dX0_touched_45 : decode cX0_touched 45 = .ok (.getfield 32, 3) := by decide +kernel
theorem dX0_touched_48 : decode cX0_touched 48 = .ok (.invokestatic 80, 3) := by decide +kernel
theorem dX0_touched_51 : decode cX0_touched 51 = .ok (.iload_n 3, 1) := by decide +kernel
theorem dX0_touched_52 : decode cX0_touched 52 = .ok (.idiv, 1) := by decide +kernel
theorem dX0_touched_53 : decode cX0_touched 53 = .ok (.iload 5, 2) := by decide +kernel
theorem dX0_touched_55 : decode cX0_touched 55 = .ok (.invokevirtual 90, 3) := by decide +kernel
theorem dX0_touched_58 : decode cX0_touched 58 = .ok (.istore 5, 2) := by decide +kernel
theorem dX0_touched_60 : decode cX0_touched 60 = .ok (.iload 6, 2) := by decide +kernel
theorem dX0_touched_62 : decode cX0_touched 62 = .ok (.iconst 2, 1) := by decide +kernel
theorem dX0_touched_63 : decode cX0_touched 63 = .ok (.idiv, 1) := by decide +kernel
theorem dX0_touched_64 : decode cX0_touched 64 = .ok (.istore 6, 2) := by decide +kernel
theorem dX0_touched_66 : decode cX0_touched 66 = .ok (.goto (-31), 3) := by decide +kernel
theorem dX0_touched_69 : decode cX0_touched 69 = .ok (.aload_n 0, 1) := by decide +kernel
theorem dX0_touched_70 : decode cX0_touched 70 = .ok (.invokevirtual 77, 3) := by decide +kernel
theorem dX0_touched_73 : decode cX0_touched 73 = .ok (.iload 4, 2) := by decide +kernel
theorem dX0_touched_75 : decode cX0_touched 75 = .ok (.bipush 8, 2) := by decide +kernel
theorem dX0_touched_77 : decode cX0_touched 77 = .ok (.imul, 1) := by decide +kernel
theorem dX0_touched_78 : decode cX0_touched 78 = .ok (.iadd, 1) := by decide +kernel
theorem dX0_touched_79 : decode cX0_touched 79 = .ok (.istore 6, 2) := by decide +kernel
theorem dX0_touched_81 : decode cX0_touched 81 = .ok (.iconst 0, 1) := by decide +kernel
theorem dX0_touched_82 : decode cX0_touched 82 = .ok (.istore 7, 2) := by decide +kernel
theorem dX0_touched_84 : decode cX0_touched 84 = .ok (.iload 7, 2) := by decide +kernel
theorem dX0_touched_86 : decode cX0_touched 86 = .ok (.bipush 8, 2) := by decide +kernel
theorem dX0_touched_88 : decode cX0_touched 88 = .ok (.if_icmp .ge 24, 3) := by decide +kernel
theorem dX0_touched_91 : decode cX0_touched 91 = .ok (.aload_n 0, 1) := by decide +kernel
theorem dX0_touched_92 : decode cX0_touched 92 = .ok (.iload 6, 2) := by decide +kernel
theorem dX0_touched_94 : decode cX0_touched 94 = .ok (.iload 7, 2) := by decide +kernel
theorem dX0_touched_96 : decode cX0_touched 96 = .ok (.iadd, 1) := by decide +kernel
theorem dX0_touched_97 : decode cX0_touched 97 = .ok (.iload_n 3, 1) := by decide +kernel
theorem dX0_touched_98 : decode cX0_touched 98 = .ok (.idiv, 1) := by decide +kernel
theorem dX0_touched_99 : decode cX0_touched 99 = .ok (.iload 5, 2) := by decide +kernel
theorem dX0_touched_101 : decode cX0_touched 101 = .ok (.invokevirtual 90, 3) := by decide +kernel
theorem dX0_touched_104 : decode cX0_touched 104 = .ok (.istore 5, 2) := by decide +kernel
theorem dX0_touched_106 : decode cX0_touched 106 = .ok (.iinc 7 1, 3) := by decide +kernel
theorem dX0_touched_109 : decode cX0_touched 109 = .ok (.goto (-25), 3) := by decide +kernel
theorem dX0_touched_112 : decode cX0_touched 112 = .ok (.iload 5, 2) := by decide +kernel
theorem dX0_touched_114 : decode cX0_touched 114 = .ok (.ireturn, 1) := by decide +kernel
theorem dX0_window_0 : decode cX0_window 0 = .ok (.aload_n 0, 1) := by decide +kernel
theorem dX0_window_1 : decode cX0_window 1 = .ok (.getfield 35, 3) := by decide +kernel
theorem dX0_window_4 : decode cX0_window 4 = .ok (.ireturn, 1) := by decide +kernel
theorem dX0_moved_0 : decode cX0_moved 0 = .ok (.aload_n 0, 1) := by decide +kernel
theorem dX0_moved_1 : decode cX0_moved 1 = .ok (.getfield 38, 3) := by decide +kernel
theorem dX0_moved_4 : decode cX0_moved 4 = .ok (.lreturn, 1) := by decide +kernel
theorem dX0_segments_0 : decode cX0_segments 0 = .ok (.iconst 1, 1) := by decide +kernel
theorem dX0_segments_1 : decode cX0_segments 1 = .ok (.aload_n 0, 1) := by decide +kernel
theorem dX0_segments_2 : decode cX0_segments 2 = .ok (.getfield 32, 3) := by decide +kernel
theorem dX0_segments_5 : decode cX0_segments 5 = .ok (.ishl, 1) := by decide +kernel
theorem dX0_segments_6 : decode cX0_segments 6 = .ok (.ireturn, 1) := by decide +kernel
theorem dX0_seek_0 : decode cX0_seek 0 = .ok (.iconst 1, 1) := by decide +kernel
theorem dX0_seek_1 : decode cX0_seek 1 = .ok (.istore_n 3, 1) := by decide +kernel
theorem dX0_seek_2 : decode cX0_seek 2 = .ok (.iconst 0, 1) := by decide +kernel
theorem dX0_seek_3 : decode cX0_seek 3 = .ok (.istore 4, 2) := by decide +kernel
theorem dX0_seek_5 : decode cX0_seek 5 = .ok (.iload 4, 2) := by decide +kernel
theorem dX0_seek_7 : decode cX0_seek 7 = .ok (.aload_n 0, 1) := by decide +kernel
theorem dX0_seek_8 : decode cX0_seek 8 = .ok (.getfield 32, 3) := by decide +kernel
theorem dX0_seek_11 : decode cX0_seek 11 = .ok (.if_icmp .ge 56, 3) := by decide +kernel
theorem dX0_seek_14 : decode cX0_seek 14 = .ok (.aload_n 0, 1) := by decide +kernel
theorem dX0_seek_15 : decode cX0_seek 15 = .ok (.iload_n 3, 1) := by decide +kernel
theorem dX0_seek_16 : decode cX0_seek 16 = .ok (.invokevirtual 83, 3) := by decide +kernel
theorem dX0_seek_19 : decode cX0_seek 19 = .ok (.lstore 5, 2) := by decide +kernel
theorem dX0_seek_21 : decode cX0_seek 21 = .ok (.lload 5, 2) := by decide +kernel
theorem dX0_seek_23 : decode cX0_seek 23 = .ok (.ldc2_w 13, 3) := by decide +kernel
theorem dX0_seek_26 : decode cX0_seek 26 = .ok (.lcmp, 1) := by decide +kernel
theorem dX0_seek_27 : decode cX0_seek 27 = .ok (.ifCond .eq 14, 3) := by decide +kernel
theorem dX0_seek_30 : decode cX0_seek 30 = .ok (.lload 5, 2) := by decide +kernel
theorem dX0_seek_32 : decode cX0_seek 32 = .ok (.lload_n 1, 1) := by decide +kernel
theorem dX0_seek_33 : decode cX0_seek 33 = .ok (.lcmp, 1) := by decide +kernel
theorem dX0_seek_34 : decode cX0_seek 34 = .ok (.ifCond .lt 7, 3) := by decide +kernel
theorem dX0_seek_37 : decode cX0_seek 37 = .ok (.iconst 1, 1) := by decide +kernel
theorem dX0_seek_38 : decode cX0_seek 38 = .ok (.goto 4, 3) := by decide +kernel
theorem dX0_seek_41 : decode cX0_seek 41 = .ok (.iconst 0, 1) := by decide +kernel
theorem dX0_seek_42 : decode cX0_seek 42 = .ok (.istore 7, 2) := by decide +kernel
theorem dX0_seek_44 : decode cX0_seek 44 = .ok (.iload 7, 2) := by decide +kernel
theorem dX0_seek_46 : decode cX0_seek 46 = .ok (.ifCond .eq 9, 3) := by decide +kernel
theorem dX0_seek_49 : decode cX0_seek 49 = .ok (.iconst 2, 1) := by decide +kernel
theorem dX0_seek_50 : decode cX0_seek 50 = .ok (.iload_n 3, 1) := by decide +kernel
theorem dX0_seek_51 : decode cX0_seek 51 = .ok (.imul, 1) := by decide +kernel
theorem dX0_seek_52 : decode cX0_seek 52 = .ok (.goto 8, 3) := by decide +kernel
theorem dX0_seek_55 : decode cX0_seek 55 = .ok (.iconst 2, 1) := by decide +kernel
theorem dX0_seek_56 : decode cX0_seek 56 = .ok (.iload_n 3, 1) := by decide +kernel
theorem dX0_seek_57 : decode cX0_seek 57 = .ok (.imul, 1) := by decide +kernel
theorem dX0_seek_58 : decode cX0_seek 58 = .ok (.iconst 1, 1) := by decide +kernel
theorem dX0_seek_59 : decode cX0_seek 59 = .ok (.iadd, 1) := by decide +kernel
theorem dX0_seek_60 : decode cX0_seek 60 = .ok (.istore_n 3, 1) := by decide +kernel
theorem dX0_seek_61 : decode cX0_seek 61 = .ok (.iinc 4 1, 3) := by decide +kernel
theorem dX0_seek_64 : decode cX0_seek 64 = .ok (.goto (-59), 3) := by decide +kernel
theorem dX0_seek_67 : decode cX0_seek 67 = .ok (.iload_n 3, 1) := by decide +kernel
theorem dX0_seek_68 : decode cX0_seek 68 = .ok (.aload_n 0, 1) := by decide +kernel
theorem dX0_seek_69 : decode cX0_seek 69 = .ok (.invokevirtual 77, 3) := by decide +kernel
theorem dX0_seek_72 : decode cX0_seek 72 = .ok (.isub, 1) := by decide +kernel
theorem dX0_seek_73 : decode cX0_seek 73 = .ok (.ireturn, 1) := by decide +kernel
theorem dX0_borneBy_0 : decode cX0_borneBy 0 = .ok (.aload_n 0, 1) := by decide +kernel
theorem dX0_borneBy_1 : decode cX0_borneBy 1 = .ok (.getfield 32, 3) := by decide +kernel
theorem dX0_borneBy_4 : decode cX0_borneBy 4 = .ok (.iload_n 1, 1) := by decide +kernel
theorem dX0_borneBy_5 : decode cX0_borneBy 5 = .ok (.invokestatic 93, 3) := by decide +kernel
theorem dX0_borneBy_8 : decode cX0_borneBy 8 = .ok (.isub, 1) := by decide +kernel
theorem dX0_borneBy_9 : decode cX0_borneBy 9 = .ok (.iconst 1, 1) := by decide +kernel
theorem dX0_borneBy_10 : decode cX0_borneBy 10 = .ok (.isub, 1) := by decide +kernel
theorem dX0_borneBy_11 : decode cX0_borneBy 11 = .ok (.istore_n 2, 1) := by decide +kernel
theorem dX0_borneBy_12 : decode cX0_borneBy 12 = .ok (.iconst 2, 1) := by decide +kernel
theorem dX0_borneBy_13 : decode cX0_borneBy 13 = .ok (.iload_n 1, 1) := by decide +kernel
theorem dX0_borneBy_14 : decode cX0_borneBy 14 = .ok (.imul, 1) := by decide +kernel
theorem dX0_borneBy_15 : decode cX0_borneBy 15 = .ok (.iload_n 2, 1) := by decide +kernel
theorem dX0_borneBy_16 : decode cX0_borneBy 16 = .ok (.ishl, 1) := by decide +kernel
theorem dX0_borneBy_17 : decode cX0_borneBy 17 = .ok (.aload_n 0, 1) := by decide +kernel
theorem dX0_borneBy_18 : decode cX0_borneBy 18 = .ok (.invokevirtual 77, 3) := by decide +kernel
theorem dX0_borneBy_21 : decode cX0_borneBy 21 = .ok (.isub, 1) := by decide +kernel
theorem dX0_borneBy_22 : decode cX0_borneBy 22 = .ok (.istore_n 3, 1) := by decide +kernel
theorem dX0_borneBy_23 : decode cX0_borneBy 23 = .ok (.aload_n 0, 1) := by decide +kernel
theorem dX0_borneBy_24 : decode cX0_borneBy 24 = .ok (.iload_n 3, 1) := by decide +kernel
theorem dX0_borneBy_25 : decode cX0_borneBy 25 = .ok (.bipush 8, 2) := by decide +kernel
theorem dX0_borneBy_27 : decode cX0_borneBy 27 = .ok (.imul, 1) := by decide +kernel
theorem dX0_borneBy_28 : decode cX0_borneBy 28 = .ok (.iload_n 2, 1) := by decide +kernel
theorem dX0_borneBy_29 : decode cX0_borneBy 29 = .ok (.invokestatic 73, 3) := by decide +kernel
theorem dX0_borneBy_32 : decode cX0_borneBy 32 = .ok (.invokevirtual 96, 3) := by decide +kernel
theorem dX0_borneBy_35 : decode cX0_borneBy 35 = .ok (.lreturn, 1) := by decide +kernel
theorem dX0_greatestKey_0 : decode cX0_greatestKey 0 = .ok (.iload_n 1, 1) := by decide +kernel
theorem dX0_greatestKey_1 : decode cX0_greatestKey 1 = .ok (.iload_n 2, 1) := by decide +kernel
theorem dX0_greatestKey_2 : decode cX0_greatestKey 2 = .ok (.iadd, 1) := by decide +kernel
theorem dX0_greatestKey_3 : decode cX0_greatestKey 3 = .ok (.iconst 1, 1) := by decide +kernel
theorem dX0_greatestKey_4 : decode cX0_greatestKey 4 = .ok (.isub, 1) := by decide +kernel
theorem dX0_greatestKey_5 : decode cX0_greatestKey 5 = .ok (.istore_n 3, 1) := by decide +kernel
theorem dX0_greatestKey_6 : decode cX0_greatestKey 6 = .ok (.iload_n 3, 1) := by decide +kernel
theorem dX0_greatestKey_7 : decode cX0_greatestKey 7 = .ok (.iload_n 1, 1) := by decide +kernel
theorem dX0_greatestKey_8 : decode cX0_greatestKey 8 = .ok (.if_icmp .lt 29, 3) := by decide +kernel
theorem dX0_greatestKey_11 : decode cX0_greatestKey 11 = .ok (.aload_n 0, 1) := by decide +kernel
theorem dX0_greatestKey_12 : decode cX0_greatestKey 12 = .ok (.getfield 9, 3) := by decide +kernel
theorem dX0_greatestKey_15 : decode cX0_greatestKey 15 = .ok (.iload_n 3, 1) := by decide +kernel
theorem dX0_greatestKey_16 : decode cX0_greatestKey 16 = .ok (.laload, 1) := by decide +kernel
theorem dX0_greatestKey_17 : decode cX0_greatestKey 17 = .ok (.ldc2_w 13, 3) := by decide +kernel
theorem dX0_greatestKey_20 : decode cX0_greatestKey 20 = .ok (.lcmp, 1) := by decide +kernel
theorem dX0_greatestKey_21 : decode cX0_greatestKey 21 = .ok (.ifCond .eq 10, 3) := by decide +kernel
theorem dX0_greatestKey_24 : decode cX0_greatestKey 24 = .ok (.aload_n 0, 1) := by decide +kernel
theorem dX0_greatestKey_25 : decode cX0_greatestKey 25 = .ok (.getfield 9, 3) := by decide +kernel
theorem dX0_greatestKey_28 : decode cX0_greatestKey 28 = .ok (.iload_n 3, 1) := by decide +kernel
theorem dX0_greatestKey_29 : decode cX0_greatestKey 29 = .ok (.laload, 1) := by decide +kernel
theorem dX0_greatestKey_30 : decode cX0_greatestKey 30 = .ok (.lreturn, 1) := by decide +kernel
theorem dX0_greatestKey_31 : decode cX0_greatestKey 31 = .ok (.iinc 3 (-1), 3) := by decide +kernel
theorem dX0_greatestKey_34 : decode cX0_greatestKey 34 = .ok (.goto (-28), 3) := by decide +kernel
theorem dX0_greatestKey_37 : decode cX0_greatestKey 37 = .ok (.ldc2_w 13, 3) := by decide +kernel
theorem dX0_greatestKey_40 : decode cX0_greatestKey 40 = .ok (.lreturn, 1) := by decide +kernel
theorem dX0_depthOf_0 : decode cX0_depthOf 0 = .ok (.iconst 0, 1) := by decide +kernel
theorem dX0_depthOf_1 : decode cX0_depthOf 1 = .ok (.istore_n 1, 1) := by decide +kernel
theorem dX0_depthOf_2 : decode cX0_depthOf 2 = .ok (.iload_n 0, 1) := by decide +kernel
theorem dX0_depthOf_3 : decode cX0_depthOf 3 = .ok (.iconst 2, 1) := by decide +kernel
theorem dX0_depthOf_4 : decode cX0_depthOf 4 = .ok (.idiv, 1) := by decide +kernel
theorem dX0_depthOf_5 : decode cX0_depthOf 5 = .ok (.istore_n 2, 1) := by decide +kernel
theorem dX0_depthOf_6 : decode cX0_depthOf 6 = .ok (.iload_n 2, 1) := by decide +kernel
theorem dX0_depthOf_7 : decode cX0_depthOf 7 = .ok (.iconst 1, 1) := by decide +kernel
theorem dX0_depthOf_8 : decode cX0_depthOf 8 = .ok (.if_icmp .lt 13, 3) := by decide +kernel
theorem dX0_depthOf_11 : decode cX0_depthOf 11 = .ok (.iinc 1 1, 3) := by decide +kernel
theorem dX0_depthOf_14 : decode cX0_depthOf 14 = .ok (.iload_n 2, 1) := by decide +kernel
theorem dX0_depthOf_15 : decode cX0_depthOf 15 = .ok (.iconst 2, 1) := by decide +kernel
theorem dX0_depthOf_16 : decode cX0_depthOf 16 = .ok (.idiv, 1) := by decide +kernel
theorem dX0_depthOf_17 : decode cX0_depthOf 17 = .ok (.istore_n 2, 1) := by decide +kernel
theorem dX0_depthOf_18 : decode cX0_depthOf 18 = .ok (.goto (-12), 3) := by decide +kernel
theorem dX0_depthOf_21 : decode cX0_depthOf 21 = .ok (.iload_n 1, 1) := by decide +kernel
theorem dX0_depthOf_22 : decode cX0_depthOf 22 = .ok (.ireturn, 1) := by decide +kernel
theorem dX0_nodesOfTree_0 : decode cX0_nodesOfTree 0 = .ok (.iconst 1, 1) := by decide +kernel
theorem dX0_nodesOfTree_1 : decode cX0_nodesOfTree 1 = .ok (.iload_n 0, 1) := by decide +kernel
theorem dX0_nodesOfTree_2 : decode cX0_nodesOfTree 2 = .ok (.ishl, 1) := by decide +kernel
theorem dX0_nodesOfTree_3 : decode cX0_nodesOfTree 3 = .ok (.iconst 1, 1) := by decide +kernel
theorem dX0_nodesOfTree_4 : decode cX0_nodesOfTree 4 = .ok (.isub, 1) := by decide +kernel
theorem dX0_nodesOfTree_5 : decode cX0_nodesOfTree 5 = .ok (.ireturn, 1) := by decide +kernel
theorem dX0_placeInTree_0 : decode cX0_placeInTree 0 = .ok (.iload_n 1, 1) := by decide +kernel
theorem dX0_placeInTree_1 : decode cX0_placeInTree 1 = .ok (.iconst 1, 1) := by decide +kernel
theorem dX0_placeInTree_2 : decode cX0_placeInTree 2 = .ok (.if_icmp .gt 5, 3) := by decide +kernel
theorem dX0_placeInTree_5 : decode cX0_placeInTree 5 = .ok (.iconst 0, 1) := by decide +kernel
theorem dX0_placeInTree_6 : decode cX0_placeInTree 6 = .ok (.ireturn, 1) := by decide +kernel
theorem dX0_placeInTree_7 : decode cX0_placeInTree 7 = .ok (.iload_n 1, 1) := by decide +kernel
theorem dX0_placeInTree_8 : decode cX0_placeInTree 8 = .ok (.iconst 1, 1) := by decide +kernel
theorem dX0_placeInTree_9 : decode cX0_placeInTree 9 = .ok (.iadd, 1) := by decide +kernel
theorem dX0_placeInTree_10 : decode cX0_placeInTree 10 = .ok (.iconst 2, 1) := by decide +kernel
theorem dX0_placeInTree_11 : decode cX0_placeInTree 11 = .ok (.idiv, 1) := by decide +kernel
theorem dX0_placeInTree_12 : decode cX0_placeInTree 12 = .ok (.istore_n 2, 1) := by decide +kernel
theorem dX0_placeInTree_13 : decode cX0_placeInTree 13 = .ok (.iload_n 1, 1) := by decide +kernel
theorem dX0_placeInTree_14 : decode cX0_placeInTree 14 = .ok (.iload_n 2, 1) := by decide +kernel
theorem dX0_placeInTree_15 : decode cX0_placeInTree 15 = .ok (.isub, 1) := by decide +kernel
theorem dX0_placeInTree_16 : decode cX0_placeInTree 16 = .ok (.istore_n 3, 1) := by decide +kernel
theorem dX0_placeInTree_17 : decode cX0_placeInTree 17 = .ok (.iload_n 0, 1) := by decide +kernel
theorem dX0_placeInTree_18 : decode cX0_placeInTree 18 = .ok (.invokestatic 93, 3) := by decide +kernel
theorem dX0_placeInTree_21 : decode cX0_placeInTree 21 = .ok (.iload_n 2, 1) := by decide +kernel
theorem dX0_placeInTree_22 : decode cX0_placeInTree 22 = .ok (.isub, 1) := by decide +kernel
theorem dX0_placeInTree_23 : decode cX0_placeInTree 23 = .ok (.istore 4, 2) := by decide +kernel
theorem dX0_placeInTree_25 : decode cX0_placeInTree 25 = .ok (.iload 4, 2) := by decide +kernel
theorem dX0_placeInTree_27 : decode cX0_placeInTree 27 = .ok (.ifCond .ge 9, 3) := by decide +kernel
theorem dX0_placeInTree_30 : decode cX0_placeInTree 30 = .ok (.iload_n 0, 1) := by decide +kernel
theorem dX0_placeInTree_31 : decode cX0_placeInTree 31 = .ok (.iload_n 2, 1) := by decide +kernel
theorem dX0_placeInTree_32 : decode cX0_placeInTree 32 = .ok (.invokestatic 80, 3) := by decide +kernel
theorem dX0_placeInTree_35 : decode cX0_placeInTree 35 = .ok (.ireturn, 1) := by decide +kernel
theorem dX0_placeInTree_36 : decode cX0_placeInTree 36 = .ok (.iload_n 0, 1) := by decide +kernel
theorem dX0_placeInTree_37 : decode cX0_placeInTree 37 = .ok (.iload 4, 2) := by decide +kernel
theorem dX0_placeInTree_39 : decode cX0_placeInTree 39 = .ok (.ishr, 1) := by decide +kernel
theorem dX0_placeInTree_40 : decode cX0_placeInTree 40 = .ok (.iconst 1, 1) := by decide +kernel
theorem dX0_placeInTree_41 : decode cX0_placeInTree 41 = .ok (.iload_n 2, 1) := by decide +kernel
theorem dX0_placeInTree_42 : decode cX0_placeInTree 42 = .ok (.ishl, 1) := by decide +kernel
theorem dX0_placeInTree_43 : decode cX0_placeInTree 43 = .ok (.isub, 1) := by decide +kernel
theorem dX0_placeInTree_44 : decode cX0_placeInTree 44 = .ok (.istore 5, 2) := by decide +kernel
theorem dX0_placeInTree_46 : decode cX0_placeInTree 46 = .ok (.iconst 1, 1) := by decide +kernel
theorem dX0_placeInTree_47 : decode cX0_placeInTree 47 = .ok (.iload 4, 2) := by decide +kernel
theorem dX0_placeInTree_49 : decode cX0_placeInTree 49 = .ok (.ishl, 1) := by decide +kernel
theorem dX0_placeInTree_50 : decode cX0_placeInTree 50 = .ok (.iload_n 0, 1) := by decide +kernel
theorem dX0_placeInTree_51 : decode cX0_placeInTree 51 = .ok (.iconst 1, 1) := by decide +kernel
theorem dX0_placeInTree_52 : decode cX0_placeInTree 52 = .ok (.iload 4, 2) := by decide +kernel
theorem dX0_placeInTree_54 : decode cX0_placeInTree 54 = .ok (.ishl, 1) := by decide +kernel
theorem dX0_placeInTree_55 : decode cX0_placeInTree 55 = .ok (.irem, 1) := by decide +kernel
theorem dX0_placeInTree_56 : decode cX0_placeInTree 56 = .ok (.iadd, 1) := by decide +kernel
theorem dX0_placeInTree_57 : decode cX0_placeInTree 57 = .ok (.istore 6, 2) := by decide +kernel
theorem dX0_placeInTree_59 : decode cX0_placeInTree 59 = .ok (.iload_n 2, 1) := by decide +kernel
theorem dX0_placeInTree_60 : decode cX0_placeInTree 60 = .ok (.invokestatic 100, 3) := by decide +kernel
theorem dX0_placeInTree_63 : decode cX0_placeInTree 63 = .ok (.iload 5, 2) := by decide +kernel
theorem dX0_placeInTree_65 : decode cX0_placeInTree 65 = .ok (.iload_n 3, 1) := by decide +kernel
theorem dX0_placeInTree_66 : decode cX0_placeInTree 66 = .ok (.invokestatic 100, 3) := by decide +kernel
theorem dX0_placeInTree_69 : decode cX0_placeInTree 69 = .ok (.imul, 1) := by decide +kernel
theorem dX0_placeInTree_70 : decode cX0_placeInTree 70 = .ok (.iadd, 1) := by decide +kernel
theorem dX0_placeInTree_71 : decode cX0_placeInTree 71 = .ok (.iload 6, 2) := by decide +kernel
theorem dX0_placeInTree_73 : decode cX0_placeInTree 73 = .ok (.iload_n 3, 1) := by decide +kernel
theorem dX0_placeInTree_74 : decode cX0_placeInTree 74 = .ok (.invokestatic 80, 3) := by decide +kernel
theorem dX0_placeInTree_77 : decode cX0_placeInTree 77 = .ok (.iadd, 1) := by decide +kernel
theorem dX0_placeInTree_78 : decode cX0_placeInTree 78 = .ok (.ireturn, 1) := by decide +kernel
theorem dX0_noteBlock_0 : decode cX0_noteBlock 0 = .ok (.iconst 0, 1) := by decide +kernel
theorem dX0_noteBlock_1 : decode cX0_noteBlock 1 = .ok (.istore_n 3, 1) := by decide +kernel
theorem dX0_noteBlock_2 : decode cX0_noteBlock 2 = .ok (.iload_n 3, 1) := by decide +kernel
theorem dX0_noteBlock_3 : decode cX0_noteBlock 3 = .ok (.iload_n 2, 1) := by decide +kernel
theorem dX0_noteBlock_4 : decode cX0_noteBlock 4 = .ok (.if_icmp .ge 21, 3) := by decide +kernel
theorem dX0_noteBlock_7 : decode cX0_noteBlock 7 = .ok (.aload_n 0, 1) := by decide +kernel
theorem dX0_noteBlock_8 : decode cX0_noteBlock 8 = .ok (.getfield 24, 3) := by decide +kernel
theorem dX0_noteBlock_11 : decode cX0_noteBlock 11 = .ok (.iload_n 3, 1) := by decide +kernel
theorem dX0_noteBlock_12 : decode cX0_noteBlock 12 = .ok (.iaload, 1) := by decide +kernel
theorem dX0_noteBlock_13 : decode cX0_noteBlock 13 = .ok (.iload_n 1, 1) := by decide +kernel
theorem dX0_noteBlock_14 : decode cX0_noteBlock 14 = .ok (.if_icmp .ne 5, 3) := by decide +kernel
theorem dX0_noteBlock_17 : decode cX0_noteBlock 17 = .ok (.iload_n 2, 1) := by decide +kernel
theorem dX0_noteBlock_18 : decode cX0_noteBlock 18 = .ok (.ireturn, 1) := by decide +kernel
theorem dX0_noteBlock_19 : decode cX0_noteBlock 19 = .ok (.iinc 3 1, 3) := by decide +kernel
theorem dX0_noteBlock_22 : decode cX0_noteBlock 22 = .ok (.goto (-20), 3) := by decide +kernel
theorem dX0_noteBlock_25 : decode cX0_noteBlock 25 = .ok (.aload_n 0, 1) := by decide +kernel
theorem dX0_noteBlock_26 : decode cX0_noteBlock 26 = .ok (.getfield 24, 3) := by decide +kernel
theorem dX0_noteBlock_29 : decode cX0_noteBlock 29 = .ok (.iload_n 2, 1) := by decide +kernel
theorem dX0_noteBlock_30 : decode cX0_noteBlock 30 = .ok (.iload_n 1, 1) := by decide +kernel
theorem dX0_noteBlock_31 : decode cX0_noteBlock 31 = .ok (.iastore, 1) := by decide +kernel
theorem dX0_noteBlock_32 : decode cX0_noteBlock 32 = .ok (.iload_n 2, 1) := by decide +kernel
theorem dX0_noteBlock_33 : decode cX0_noteBlock 33 = .ok (.iconst 1, 1) := by decide +kernel
theorem dX0_noteBlock_34 : decode cX0_noteBlock 34 = .ok (.iadd, 1) := by decide +kernel
theorem dX0_noteBlock_35 : decode cX0_noteBlock 35 = .ok (.ireturn, 1) := by decide +kernel
theorem dX0_cellNotBelow_0 : decode cX0_cellNotBelow 0 = .ok (.aload_n 0, 1) := by decide +kernel
theorem dX0_cellNotBelow_1 : decode cX0_cellNotBelow 1 = .ok (.lload_n 1, 1) := by decide +kernel
theorem dX0_cellNotBelow_2 : decode cX0_cellNotBelow 2 = .ok (.invokevirtual 87, 3) := by decide +kernel
theorem dX0_cellNotBelow_5 : decode cX0_cellNotBelow 5 = .ok (.bipush 8, 2) := by decide +kernel
theorem dX0_cellNotBelow_7 : decode cX0_cellNotBelow 7 = .ok (.imul, 1) := by decide +kernel
theorem dX0_cellNotBelow_8 : decode cX0_cellNotBelow 8 = .ok (.istore_n 3, 1) := by decide +kernel
theorem dX0_cellNotBelow_9 : decode cX0_cellNotBelow 9 = .ok (.iload_n 3, 1) := by decide +kernel
theorem dX0_cellNotBelow_10 : decode cX0_cellNotBelow 10 = .ok (.istore 4, 2) := by decide +kernel
theorem dX0_cellNotBelow_12 : decode cX0_cellNotBelow 12 = .ok (.iload 4, 2) := by decide +kernel
theorem dX0_cellNotBelow_14 : decode cX0_cellNotBelow 14 = .ok (.iload_n 3, 1) := by decide +kernel
theorem dX0_cellNotBelow_15 : decode cX0_cellNotBelow 15 = .ok (.bipush 8, 2) := by decide +kernel
theorem dX0_cellNotBelow_17 : decode cX0_cellNotBelow 17 = .ok (.iadd, 1) := by decide +kernel
theorem dX0_cellNotBelow_18 : decode cX0_cellNotBelow 18 = .ok (.if_icmp .ge 38, 3) := by decide +kernel
theorem dX0_cellNotBelow_21 : decode cX0_cellNotBelow 21 = .ok (.aload_n 0, 1) := by decide +kernel
theorem dX0_cellNotBelow_22 : decode cX0_cellNotBelow 22 = .ok (.getfield 9, 3) := by decide +kernel
theorem dX0_cellNotBelow_25 : decode cX0_cellNotBelow 25 = .ok (.iload 4, 2) := by decide +kernel
theorem dX0_cellNotBelow_27 : decode cX0_cellNotBelow 27 = .ok (.laload, 1) := by decide +kernel
theorem dX0_cellNotBelow_28 : decode cX0_cellNotBelow 28 = .ok (.ldc2_w 13, 3) := by decide +kernel
theorem dX0_cellNotBelow_31 : decode cX0_cellNotBelow 31 = .ok (.lcmp, 1) := by decide +kernel
theorem dX0_cellNotBelow_32 : decode cX0_cellNotBelow 32 = .ok (.ifCond .eq 18, 3) := by decide +kernel
theorem dX0_cellNotBelow_35 : decode cX0_cellNotBelow 35 = .ok (.aload_n 0, 1) := by decide +kernel
theorem dX0_cellNotBelow_36 : decode cX0_cellNotBelow 36 = .ok (.getfield 9, 3) := by decide +kernel
theorem dX0_cellNotBelow_39 : decode cX0_cellNotBelow 39 = .ok (.iload 4, 2) := by decide +kernel
theorem dX0_cellNotBelow_41 : decode cX0_cellNotBelow 41 = .ok (.laload, 1) := by decide +kernel
theorem dX0_cellNotBelow_42 : decode cX0_cellNotBelow 42 = .ok (.lload_n 1, 1) := by decide +kernel
theorem dX0_cellNotBelow_43 : decode cX0_cellNotBelow 43 = .ok (.lcmp, 1) := by decide +kernel
theorem dX0_cellNotBelow_44 : decode cX0_cellNotBelow 44 = .ok (.ifCond .lt 6, 3) := by decide +kernel
theorem dX0_cellNotBelow_47 : decode cX0_cellNotBelow 47 = .ok (.iload 4, 2) := by decide +kernel
theorem dX0_cellNotBelow_49 : decode cX0_cellNotBelow 49 = .ok (.ireturn, 1) := by decide +kernel
theorem dX0_cellNotBelow_50 : decode cX0_cellNotBelow 50 = .ok (.iinc 4 1, 3) := by decide +kernel
theorem dX0_cellNotBelow_53 : decode cX0_cellNotBelow 53 = .ok (.goto (-41), 3) := by decide +kernel
theorem dX0_cellNotBelow_56 : decode cX0_cellNotBelow 56 = .ok (.iconst (-1), 1) := by decide +kernel
theorem dX0_cellNotBelow_57 : decode cX0_cellNotBelow 57 = .ok (.ireturn, 1) := by decide +kernel
theorem dX0_cellOf_0 : decode cX0_cellOf 0 = .ok (.aload_n 0, 1) := by decide +kernel
theorem dX0_cellOf_1 : decode cX0_cellOf 1 = .ok (.lload_n 1, 1) := by decide +kernel
theorem dX0_cellOf_2 : decode cX0_cellOf 2 = .ok (.invokevirtual 58, 3) := by decide +kernel
theorem dX0_cellOf_5 : decode cX0_cellOf 5 = .ok (.istore_n 3, 1) := by decide +kernel
theorem dX0_cellOf_6 : decode cX0_cellOf 6 = .ok (.iload_n 3, 1) := by decide +kernel
theorem dX0_cellOf_7 : decode cX0_cellOf 7 = .ok (.iconst (-1), 1) := by decide +kernel
theorem dX0_cellOf_8 : decode cX0_cellOf 8 = .ok (.if_icmp .eq 18, 3) := by decide +kernel
theorem dX0_cellOf_11 : decode cX0_cellOf 11 = .ok (.aload_n 0, 1) := by decide +kernel
theorem dX0_cellOf_12 : decode cX0_cellOf 12 = .ok (.getfield 9, 3) := by decide +kernel
theorem dX0_cellOf_15 : decode cX0_cellOf 15 = .ok (.iload_n 3, 1) := by decide +kernel
theorem dX0_cellOf_16 : decode cX0_cellOf 16 = .ok (.laload, 1) := by decide +kernel
theorem dX0_cellOf_17 : decode cX0_cellOf 17 = .ok (.lload_n 1, 1) := by decide +kernel
theorem dX0_cellOf_18 : decode cX0_cellOf 18 = .ok (.lcmp, 1) := by decide +kernel
theorem dX0_cellOf_19 : decode cX0_cellOf 19 = .ok (.ifCond .ne 7, 3) := by decide +kernel
theorem dX0_cellOf_22 : decode cX0_cellOf 22 = .ok (.iload_n 3, 1) := by decide +kernel
theorem dX0_cellOf_23 : decode cX0_cellOf 23 = .ok (.goto 4, 3) := by decide +kernel
theorem dX0_cellOf_26 : decode cX0_cellOf 26 = .ok (.iconst (-1), 1) := by decide +kernel
theorem dX0_cellOf_27 : decode cX0_cellOf 27 = .ok (.ireturn, 1) := by decide +kernel
theorem dX0_isHeldBetween_0 : decode cX0_isHeldBetween 0 = .ok (.aload_n 0, 1) := by decide +kernel
theorem dX0_isHeldBetween_1 : decode cX0_isHeldBetween 1 = .ok (.getfield 9, 3) := by decide +kernel
theorem dX0_isHeldBetween_4 : decode cX0_isHeldBetween 4 = .ok (.iload_n 1, 1) := by decide +kernel
theorem dX0_isHeldBetween_5 : decode cX0_isHeldBetween 5 = .ok (.laload, 1) := by decide +kernel
theorem dX0_isHeldBetween_6 : decode cX0_isHeldBetween 6 = .ok (.lstore 6, 2) := by decide +kernel
theorem dX0_isHeldBetween_8 : decode cX0_isHeldBetween 8 = .ok (.lload 6, 2) := by decide +kernel
theorem dX0_isHeldBetween_10 : decode cX0_isHeldBetween 10 = .ok (.ldc2_w 13, 3) := by decide +kernel
theorem dX0_isHeldBetween_13 : decode cX0_isHeldBetween 13 = .ok (.lcmp, 1) := by decide +kernel
theorem dX0_isHeldBetween_14 : decode cX0_isHeldBetween 14 = .ok (.ifCond .eq 22, 3) := by decide +kernel
theorem dX0_isHeldBetween_17 : decode cX0_isHeldBetween 17 = .ok (.lload 6, 2) := by decide +kernel
theorem dX0_isHeldBetween_19 : decode cX0_isHeldBetween 19 = .ok (.lload_n 2, 1) := by decide +kernel
theorem dX0_isHeldBetween_20 : decode cX0_isHeldBetween 20 = .ok (.lcmp, 1) := by decide +kernel
theorem dX0_isHeldBetween_21 : decode cX0_isHeldBetween 21 = .ok (.ifCond .lt 15, 3) := by decide +kernel
theorem dX0_isHeldBetween_24 : decode cX0_isHeldBetween 24 = .ok (.lload 6, 2) := by decide +kernel
theorem dX0_isHeldBetween_26 : decode cX0_isHeldBetween 26 = .ok (.lload 4, 2) := by decide +kernel
theorem dX0_isHeldBetween_28 : decode cX0_isHeldBetween 28 = .ok (.lcmp, 1) := by decide +kernel
theorem dX0_isHeldBetween_29 : decode cX0_isHeldBetween 29 = .ok (.ifCond .gt 7, 3) := by decide +kernel
theorem dX0_isHeldBetween_32 : decode cX0_isHeldBetween 32 = .ok (.iconst 1, 1) := by decide +kernel
theorem dX0_isHeldBetween_33 : decode cX0_isHeldBetween 33 = .ok (.goto 4, 3) := by decide +kernel
theorem dX0_isHeldBetween_36 : decode cX0_isHeldBetween 36 = .ok (.iconst 0, 1) := by decide +kernel
theorem dX0_isHeldBetween_37 : decode cX0_isHeldBetween 37 = .ok (.ireturn, 1) := by decide +kernel
theorem dX0_keysAmong_0 : decode cX0_keysAmong 0 = .ok (.iconst 0, 1) := by decide +kernel
theorem dX0_keysAmong_1 : decode cX0_keysAmong 1 = .ok (.istore_n 3, 1) := by decide +kernel
theorem dX0_keysAmong_2 : decode cX0_keysAmong 2 = .ok (.iload_n 1, 1) := by decide +kernel
theorem dX0_keysAmong_3 : decode cX0_keysAmong 3 = .ok (.istore 4, 2) := by decide +kernel
theorem dX0_keysAmong_5 : decode cX0_keysAmong 5 = .ok (.iload 4, 2) := by decide +kernel
theorem dX0_keysAmong_7 : decode cX0_keysAmong 7 = .ok (.iload_n 1, 1) := by decide +kernel
theorem dX0_keysAmong_8 : decode cX0_keysAmong 8 = .ok (.iload_n 2, 1) := by decide +kernel
theorem dX0_keysAmong_9 : decode cX0_keysAmong 9 = .ok (.iadd, 1) := by decide +kernel
theorem dX0_keysAmong_10 : decode cX0_keysAmong 10 = .ok (.if_icmp .ge 26, 3) := by decide +kernel
theorem dX0_keysAmong_13 : decode cX0_keysAmong 13 = .ok (.aload_n 0, 1) := by decide +kernel
theorem dX0_keysAmong_14 : decode cX0_keysAmong 14 = .ok (.getfield 9, 3) := by decide +kernel
theorem dX0_keysAmong_17 : decode cX0_keysAmong 17 = .ok (.iload 4, 2) := by decide +kernel
theorem dX0_keysAmong_19 : decode cX0_keysAmong 19 = .ok (.laload, 1) := by decide +kernel
theorem dX0_keysAmong_20 : decode cX0_keysAmong 20 = .ok (.ldc2_w 13, 3) := by decide +kernel
theorem dX0_keysAmong_23 : decode cX0_keysAmong 23 = .ok (.lcmp, 1) := by decide +kernel
theorem dX0_keysAmong_24 : decode cX0_keysAmong 24 = .ok (.ifCond .eq 6, 3) := by decide +kernel
theorem dX0_keysAmong_27 : decode cX0_keysAmong 27 = .ok (.iinc 3 1, 3) := by decide +kernel
theorem dX0_keysAmong_30 : decode cX0_keysAmong 30 = .ok (.iinc 4 1, 3) := by decide +kernel
theorem dX0_keysAmong_33 : decode cX0_keysAmong 33 = .ok (.goto (-28), 3) := by decide +kernel
theorem dX0_keysAmong_36 : decode cX0_keysAmong 36 = .ok (.iload_n 3, 1) := by decide +kernel
theorem dX0_keysAmong_37 : decode cX0_keysAmong 37 = .ok (.ireturn, 1) := by decide +kernel
theorem dX0_windowCells_0 : decode cX0_windowCells 0 = .ok (.bipush 8, 2) := by decide +kernel
theorem dX0_windowCells_2 : decode cX0_windowCells 2 = .ok (.iload_n 0, 1) := by decide +kernel
theorem dX0_windowCells_3 : decode cX0_windowCells 3 = .ok (.ishl, 1) := by decide +kernel
theorem dX0_windowCells_4 : decode cX0_windowCells 4 = .ok (.ireturn, 1) := by decide +kernel
theorem dX0_firstCell_0 : decode cX0_firstCell 0 = .ok (.iload_n 0, 1) := by decide +kernel
theorem dX0_firstCell_1 : decode cX0_firstCell 1 = .ok (.iload_n 1, 1) := by decide +kernel
theorem dX0_firstCell_2 : decode cX0_firstCell 2 = .ok (.ishr, 1) := by decide +kernel
theorem dX0_firstCell_3 : decode cX0_firstCell 3 = .ok (.iload_n 1, 1) := by decide +kernel
theorem dX0_firstCell_4 : decode cX0_firstCell 4 = .ok (.invokestatic 73, 3) := by decide +kernel
theorem dX0_firstCell_7 : decode cX0_firstCell 7 = .ok (.imul, 1) := by decide +kernel
theorem dX0_firstCell_8 : decode cX0_firstCell 8 = .ok (.ireturn, 1) := by decide +kernel
theorem dX0_keysInWindow_0 : decode cX0_keysInWindow 0 = .ok (.aload_n 0, 1) := by decide +kernel
theorem dX0_keysInWindow_1 : decode cX0_keysInWindow 1 = .ok (.iload_n 1, 1) := by decide +kernel
theorem dX0_keysInWindow_2 : decode cX0_keysInWindow 2 = .ok (.iload_n 2, 1) := by decide +kernel
theorem dX0_keysInWindow_3 : decode cX0_keysInWindow 3 = .ok (.invokestatic 103, 3) := by decide +kernel
theorem dX0_keysInWindow_6 : decode cX0_keysInWindow 6 = .ok (.iload_n 2, 1) := by decide +kernel
theorem dX0_keysInWindow_7 : decode cX0_keysInWindow 7 = .ok (.invokestatic 73, 3) := by decide +kernel
theorem dX0_keysInWindow_10 : decode cX0_keysInWindow 10 = .ok (.invokevirtual 69, 3) := by decide +kernel
theorem dX0_keysInWindow_13 : decode cX0_keysInWindow 13 = .ok (.ireturn, 1) := by decide +kernel
theorem dX0_mostKeys_0 : decode cX0_mostKeys 0 = .ok (.iload_n 1, 1) := by decide +kernel
theorem dX0_mostKeys_1 : decode cX0_mostKeys 1 = .ok (.invokestatic 73, 3) := by decide +kernel
theorem dX0_mostKeys_4 : decode cX0_mostKeys 4 = .ok (.iconst 4, 1) := by decide +kernel
theorem dX0_mostKeys_5 : decode cX0_mostKeys 5 = .ok (.aload_n 0, 1) := by decide +kernel
theorem dX0_mostKeys_6 : decode cX0_mostKeys 6 = .ok (.getfield 32, 3) := by decide +kernel
theorem dX0_mostKeys_9 : decode cX0_mostKeys 9 = .ok (.imul, 1) := by decide +kernel
theorem dX0_mostKeys_10 : decode cX0_mostKeys 10 = .ok (.iload_n 1, 1) := by decide +kernel
theorem dX0_mostKeys_11 : decode cX0_mostKeys 11 = .ok (.isub, 1) := by decide +kernel
theorem dX0_mostKeys_12 : decode cX0_mostKeys 12 = .ok (.imul, 1) := by decide +kernel
theorem dX0_mostKeys_13 : decode cX0_mostKeys 13 = .ok (.iconst 4, 1) := by decide +kernel
theorem dX0_mostKeys_14 : decode cX0_mostKeys 14 = .ok (.aload_n 0, 1) := by decide +kernel
theorem dX0_mostKeys_15 : decode cX0_mostKeys 15 = .ok (.getfield 32, 3) := by decide +kernel
theorem dX0_mostKeys_18 : decode cX0_mostKeys 18 = .ok (.imul, 1) := by decide +kernel
theorem dX0_mostKeys_19 : decode cX0_mostKeys 19 = .ok (.idiv, 1) := by decide +kernel
theorem dX0_mostKeys_20 : decode cX0_mostKeys 20 = .ok (.ireturn, 1) := by decide +kernel
theorem dX0_fewestKeys_0 : decode cX0_fewestKeys 0 = .ok (.bipush 8, 2) := by decide +kernel
theorem dX0_fewestKeys_2 : decode cX0_fewestKeys 2 = .ok (.aload_n 0, 1) := by decide +kernel
theorem dX0_fewestKeys_3 : decode cX0_fewestKeys 3 = .ok (.getfield 32, 3) := by decide +kernel
theorem dX0_fewestKeys_6 : decode cX0_fewestKeys 6 = .ok (.imul, 1) := by decide +kernel
theorem dX0_fewestKeys_7 : decode cX0_fewestKeys 7 = .ok (.istore_n 2, 1) := by decide +kernel
theorem dX0_fewestKeys_8 : decode cX0_fewestKeys 8 = .ok (.iload_n 1, 1) := by decide +kernel
theorem dX0_fewestKeys_9 : decode cX0_fewestKeys 9 = .ok (.invokestatic 73, 3) := by decide +kernel
theorem dX0_fewestKeys_12 : decode cX0_fewestKeys 12 = .ok (.aload_n 0, 1) := by decide +kernel
theorem dX0_fewestKeys_13 : decode cX0_fewestKeys 13 = .ok (.getfield 32, 3) := by decide +kernel
theorem dX0_fewestKeys_16 : decode cX0_fewestKeys 16 = .ok (.iload_n 1, 1) := by decide +kernel
theorem dX0_fewestKeys_17 : decode cX0_fewestKeys 17 = .ok (.iadd, 1) := by decide +kernel
theorem dX0_fewestKeys_18 : decode cX0_fewestKeys 18 = .ok (.imul, 1) := by decide +kernel
theorem dX0_fewestKeys_19 : decode cX0_fewestKeys 19 = .ok (.iload_n 2, 1) := by decide +kernel
theorem dX0_fewestKeys_20 : decode cX0_fewestKeys 20 = .ok (.iadd, 1) := by decide +kernel
theorem dX0_fewestKeys_21 : decode cX0_fewestKeys 21 = .ok (.iconst 1, 1) := by decide +kernel
theorem dX0_fewestKeys_22 : decode cX0_fewestKeys 22 = .ok (.isub, 1) := by decide +kernel
theorem dX0_fewestKeys_23 : decode cX0_fewestKeys 23 = .ok (.iload_n 2, 1) := by decide +kernel
theorem dX0_fewestKeys_24 : decode cX0_fewestKeys 24 = .ok (.idiv, 1) := by decide +kernel
theorem dX0_fewestKeys_25 : decode cX0_fewestKeys 25 = .ok (.ireturn, 1) := by decide +kernel
theorem dX0_heightWithRoom_0 : decode cX0_heightWithRoom 0 = .ok (.iconst 0, 1) := by decide +kernel
theorem dX0_heightWithRoom_1 : decode cX0_heightWithRoom 1 = .ok (.istore_n 2, 1) := by decide +kernel
theorem dX0_heightWithRoom_2 : decode cX0_heightWithRoom 2 = .ok (.iload_n 2, 1) := by decide +kernel
theorem dX0_heightWithRoom_3 : decode cX0_heightWithRoom 3 = .ok (.aload_n 0, 1) := by decide +kernel
theorem dX0_heightWithRoom_4 : decode cX0_heightWithRoom 4 = .ok (.getfield 32, 3) := by decide +kernel
theorem dX0_heightWithRoom_7 : decode cX0_heightWithRoom 7 = .ok (.if_icmp .gt 27, 3) := by decide +kernel
theorem dX0_heightWithRoom_10 : decode cX0_heightWithRoom 10 = .ok (.aload_n 0, 1) := by decide +kernel
theorem dX0_heightWithRoom_11 : decode cX0_heightWithRoom 11 = .ok (.iload_n 1, 1) := by decide +kernel
theorem dX0_heightWithRoom_12 : decode cX0_heightWithRoom 12 = .ok (.iload_n 2, 1) := by decide +kernel
theorem dX0_heightWithRoom_13 : decode cX0_heightWithRoom 13 = .ok (.invokevirtual 106, 3) := by decide +kernel
theorem dX0_heightWithRoom_16 : decode cX0_heightWithRoom 16 = .ok (.iconst 1, 1) := by decide +kernel
theorem dX0_heightWithRoom_17 : decode cX0_heightWithRoom 17 = .ok (.iadd, 1) := by decide +kernel
theorem dX0_heightWithRoom_18 : decode cX0_heightWithRoom 18 = .ok (.aload_n 0, 1) := by decide +kernel
theorem dX0_heightWithRoom_19 : decode cX0_heightWithRoom 19 = .ok (.iload_n 2, 1) := by decide +kernel
theorem dX0_heightWithRoom_20 : decode cX0_heightWithRoom 20 = .ok (.invokevirtual 109, 3) := by decide +kernel
theorem dX0_heightWithRoom_23 : decode cX0_heightWithRoom 23 = .ok (.if_icmp .gt 5, 3) := by decide +kernel
theorem dX0_heightWithRoom_26 : decode cX0_heightWithRoom 26 = .ok (.iload_n 2, 1) := by decide +kernel
theorem dX0_heightWithRoom_27 : decode cX0_heightWithRoom 27 = .ok (.ireturn, 1) := by decide +kernel
theorem dX0_heightWithRoom_28 : decode cX0_heightWithRoom 28 = .ok (.iinc 2 1, 3) := by decide +kernel
theorem dX0_heightWithRoom_31 : decode cX0_heightWithRoom 31 = .ok (.goto (-29), 3) := by decide +kernel
theorem dX0_heightWithRoom_34 : decode cX0_heightWithRoom 34 = .ok (.iconst (-1), 1) := by decide +kernel
theorem dX0_heightWithRoom_35 : decode cX0_heightWithRoom 35 = .ok (.ireturn, 1) := by decide +kernel
theorem dX0_heightWithEnough_0 : decode cX0_heightWithEnough 0 = .ok (.iconst 0, 1) := by decide +kernel
theorem dX0_heightWithEnough_1 : decode cX0_heightWithEnough 1 = .ok (.istore_n 2, 1) := by decide +kernel
theorem dX0_heightWithEnough_2 : decode cX0_heightWithEnough 2 = .ok (.iload_n 2, 1) := by decide +kernel
theorem dX0_heightWithEnough_3 : decode cX0_heightWithEnough 3 = .ok (.aload_n 0, 1) := by decide +kernel
theorem dX0_heightWithEnough_4 : decode cX0_heightWithEnough 4 = .ok (.getfield 32, 3) := by decide +kernel
theorem dX0_heightWithEnough_7 : decode cX0_heightWithEnough 7 = .ok (.if_icmp .gt 25, 3) := by decide +kernel
theorem dX0_heightWithEnough_10 : decode cX0_heightWithEnough 10 = .ok (.aload_n 0, 1) := by decide +kernel
theorem dX0_heightWithEnough_11 : decode cX0_heightWithEnough 11 = .ok (.iload_n 1, 1) := by decide +kernel
theorem dX0_heightWithEnough_12 : decode cX0_heightWithEnough 12 = .ok (.iload_n 2, 1) := by decide +kernel
theorem dX0_heightWithEnough_13 : decode cX0_heightWithEnough 13 = .ok (.invokevirtual 106, 3) := by decide +kernel
theorem dX0_heightWithEnough_16 : decode cX0_heightWithEnough 16 = .ok (.aload_n 0, 1) := by decide +kernel
theorem dX0_heightWithEnough_17 : decode cX0_heightWithEnough 17 = .ok (.iload_n 2, 1) := by decide +kernel
theorem dX0_heightWithEnough_18 : decode cX0_heightWithEnough 18 = .ok (.invokevirtual 112, 3) := by decide +kernel
theorem dX0_heightWithEnough_21 : decode cX0_heightWithEnough 21 = .ok (.if_icmp .lt 5, 3) := by decide +kernel
theorem dX0_heightWithEnough_24 : decode cX0_heightWithEnough 24 = .ok (.iload_n 2, 1) := by decide +kernel
theorem dX0_heightWithEnough_25 : decode cX0_heightWithEnough 25 = .ok (.ireturn, 1) := by decide +kernel
theorem dX0_heightWithEnough_26 : decode cX0_heightWithEnough 26 = .ok (.iinc 2 1, 3) := by decide +kernel
theorem dX0_heightWithEnough_29 : decode cX0_heightWithEnough 29 = .ok (.goto (-27), 3) := by decide +kernel
theorem dX0_heightWithEnough_32 : decode cX0_heightWithEnough 32 = .ok (.iconst (-1), 1) := by decide +kernel
theorem dX0_heightWithEnough_33 : decode cX0_heightWithEnough 33 = .ok (.ireturn, 1) := by decide +kernel
theorem dX0_putNew_0 : decode cX0_putNew 0 = .ok (.aload_n 0, 1) := by decide +kernel
theorem dX0_putNew_1 : decode cX0_putNew 1 = .ok (.lload_n 1, 1) := by decide +kernel
theorem dX0_putNew_2 : decode cX0_putNew 2 = .ok (.invokevirtual 87, 3) := by decide +kernel
theorem dX0_putNew_5 : decode cX0_putNew 5 = .ok (.istore 5, 2) := by decide +kernel
theorem dX0_putNew_7 : decode cX0_putNew 7 = .ok (.aload_n 0, 1) := by decide +kernel
theorem dX0_putNew_8 : decode cX0_putNew 8 = .ok (.iload 5, 2) := by decide +kernel
theorem dX0_putNew_10 : decode cX0_putNew 10 = .ok (.invokevirtual 115, 3) := by decide +kernel
theorem dX0_putNew_13 : decode cX0_putNew 13 = .ok (.istore 6, 2) := by decide +kernel
theorem dX0_putNew_15 : decode cX0_putNew 15 = .ok (.iload 6, 2) := by decide +kernel
theorem dX0_putNew_17 : decode cX0_putNew 17 = .ok (.iconst (-1), 1) := by decide +kernel
theorem dX0_putNew_18 : decode cX0_putNew 18 = .ok (.if_icmp .ne 31, 3) := by decide +kernel
theorem dX0_putNew_21 : decode cX0_putNew 21 = .ok (.aload_n 0, 1) := by decide +kernel
theorem dX0_putNew_22 : decode cX0_putNew 22 = .ok (.invokevirtual 61, 3) := by decide +kernel
theorem dX0_putNew_25 : decode cX0_putNew 25 = .ok (.sipush 512, 3) := by decide +kernel
theorem dX0_putNew_28 : decode cX0_putNew 28 = .ok (.if_icmp .ne 5, 3) := by decide +kernel
theorem dX0_putNew_31 : decode cX0_putNew 31 = .ok (.iconst 0, 1) := by decide +kernel
theorem dX0_putNew_32 : decode cX0_putNew 32 = .ok (.ireturn, 1) := by decide +kernel
theorem dX0_putNew_33 : decode cX0_putNew 33 = .ok (.aload_n 0, 1) := by decide +kernel
theorem dX0_putNew_34 : decode cX0_putNew 34 = .ok (.dup, 1) := by decide +kernel
theorem dX0_putNew_35 : decode cX0_putNew 35 = .ok (.getfield 32, 3) := by decide +kernel
theorem dX0_putNew_38 : decode cX0_putNew 38 = .ok (.iconst 1, 1) := by decide +kernel
theorem dX0_putNew_39 : decode cX0_putNew 39 = .ok (.iadd, 1) := by decide +kernel
theorem dX0_putNew_40 : decode cX0_putNew 40 = .ok (.putfield 32, 3) := by decide +kernel
theorem dX0_putNew_43 : decode cX0_putNew 43 = .ok (.aload_n 0, 1) := by decide +kernel
theorem dX0_putNew_44 : decode cX0_putNew 44 = .ok (.getfield 32, 3) := by decide +kernel
theorem dX0_putNew_47 : decode cX0_putNew 47 = .ok (.istore 6, 2) := by decide +kernel
theorem dX0_putNew_49 : decode cX0_putNew 49 = .ok (.iload 5, 2) := by decide +kernel
theorem dX0_putNew_51 : decode cX0_putNew 51 = .ok (.iload 6, 2) := by decide +kernel
theorem dX0_putNew_53 : decode cX0_putNew 53 = .ok (.invokestatic 103, 3) := by decide +kernel
theorem dX0_putNew_56 : decode cX0_putNew 56 = .ok (.istore 7, 2) := by decide +kernel
theorem dX0_putNew_58 : decode cX0_putNew 58 = .ok (.aload_n 0, 1) := by decide +kernel
theorem dX0_putNew_59 : decode cX0_putNew 59 = .ok (.iload 7, 2) := by decide +kernel
theorem dX0_putNew_61 : decode cX0_putNew 61 = .ok (.iload 6, 2) := by decide +kernel
theorem dX0_putNew_63 : decode cX0_putNew 63 = .ok (.invokestatic 73, 3) := by decide +kernel
theorem dX0_putNew_66 : decode cX0_putNew 66 = .ok (.invokevirtual 118, 3) := by decide +kernel
theorem dX0_putNew_69 : decode cX0_putNew 69 = .ok (.istore 8, 2) := by decide +kernel
theorem dX0_putNew_71 : decode cX0_putNew 71 = .ok (.aload_n 0, 1) := by decide +kernel
theorem dX0_putNew_72 : decode cX0_putNew 72 = .ok (.iload 7, 2) := by decide +kernel
theorem dX0_putNew_74 : decode cX0_putNew 74 = .ok (.iload 8, 2) := by decide +kernel
theorem dX0_putNew_76 : decode cX0_putNew 76 = .ok (.lload_n 1, 1) := by decide +kernel
theorem dX0_putNew_77 : decode cX0_putNew 77 = .ok (.lload_n 3, 1) := by decide +kernel
theorem dX0_putNew_78 : decode cX0_putNew 78 = .ok (.invokevirtual 121, 3) := by decide +kernel
theorem dX0_putNew_81 : decode cX0_putNew 81 = .ok (.aload_n 0, 1) := by decide +kernel
theorem dX0_putNew_82 : decode cX0_putNew 82 = .ok (.iload 7, 2) := by decide +kernel
theorem dX0_putNew_84 : decode cX0_putNew 84 = .ok (.iload 6, 2) := by decide +kernel
theorem dX0_putNew_86 : decode cX0_putNew 86 = .ok (.iload 8, 2) := by decide +kernel
theorem dX0_putNew_88 : decode cX0_putNew 88 = .ok (.iconst 1, 1) := by decide +kernel
theorem dX0_putNew_89 : decode cX0_putNew 89 = .ok (.iadd, 1) := by decide +kernel
theorem dX0_putNew_90 : decode cX0_putNew 90 = .ok (.invokevirtual 125, 3) := by decide +kernel
theorem dX0_putNew_93 : decode cX0_putNew 93 = .ok (.iconst 1, 1) := by decide +kernel
theorem dX0_putNew_94 : decode cX0_putNew 94 = .ok (.ireturn, 1) := by decide +kernel
theorem dX0_takeOut_0 : decode cX0_takeOut 0 = .ok (.aload_n 0, 1) := by decide +kernel
theorem dX0_takeOut_1 : decode cX0_takeOut 1 = .ok (.iload_n 1, 1) := by decide +kernel
theorem dX0_takeOut_2 : decode cX0_takeOut 2 = .ok (.invokevirtual 129, 3) := by decide +kernel
theorem dX0_takeOut_5 : decode cX0_takeOut 5 = .ok (.iload_n 1, 1) := by decide +kernel
theorem dX0_takeOut_6 : decode cX0_takeOut 6 = .ok (.bipush 8, 2) := by decide +kernel
theorem dX0_takeOut_8 : decode cX0_takeOut 8 = .ok (.idiv, 1) := by decide +kernel
theorem dX0_takeOut_9 : decode cX0_takeOut 9 = .ok (.istore_n 2, 1) := by decide +kernel
theorem dX0_takeOut_10 : decode cX0_takeOut 10 = .ok (.aload_n 0, 1) := by decide +kernel
theorem dX0_takeOut_11 : decode cX0_takeOut 11 = .ok (.iload_n 2, 1) := by decide +kernel
theorem dX0_takeOut_12 : decode cX0_takeOut 12 = .ok (.invokevirtual 132, 3) := by decide +kernel
theorem dX0_takeOut_15 : decode cX0_takeOut 15 = .ok (.istore_n 3, 1) := by decide +kernel
theorem dX0_takeOut_16 : decode cX0_takeOut 16 = .ok (.iload_n 3, 1) := by decide +kernel
theorem dX0_takeOut_17 : decode cX0_takeOut 17 = .ok (.iconst (-1), 1) := by decide +kernel
theorem dX0_takeOut_18 : decode cX0_takeOut 18 = .ok (.if_icmp .eq 30, 3) := by decide +kernel
theorem dX0_takeOut_21 : decode cX0_takeOut 21 = .ok (.iload_n 2, 1) := by decide +kernel
theorem dX0_takeOut_22 : decode cX0_takeOut 22 = .ok (.iload_n 3, 1) := by decide +kernel
theorem dX0_takeOut_23 : decode cX0_takeOut 23 = .ok (.invokestatic 103, 3) := by decide +kernel
theorem dX0_takeOut_26 : decode cX0_takeOut 26 = .ok (.istore 4, 2) := by decide +kernel
theorem dX0_takeOut_28 : decode cX0_takeOut 28 = .ok (.aload_n 0, 1) := by decide +kernel
theorem dX0_takeOut_29 : decode cX0_takeOut 29 = .ok (.iload 4, 2) := by decide +kernel
theorem dX0_takeOut_31 : decode cX0_takeOut 31 = .ok (.iload_n 3, 1) := by decide +kernel
theorem dX0_takeOut_32 : decode cX0_takeOut 32 = .ok (.aload_n 0, 1) := by decide +kernel
theorem dX0_takeOut_33 : decode cX0_takeOut 33 = .ok (.iload 4, 2) := by decide +kernel
theorem dX0_takeOut_35 : decode cX0_takeOut 35 = .ok (.iload_n 3, 1) := by decide +kernel
theorem dX0_takeOut_36 : decode cX0_takeOut 36 = .ok (.invokestatic 73, 3) := by decide +kernel
theorem dX0_takeOut_39 : decode cX0_takeOut 39 = .ok (.invokevirtual 118, 3) := by decide +kernel
theorem dX0_takeOut_42 : decode cX0_takeOut 42 = .ok (.invokevirtual 125, 3) := by decide +kernel
theorem dX0_takeOut_45 : decode cX0_takeOut 45 = .ok (.goto 18, 3) := by decide +kernel
theorem dX0_takeOut_48 : decode cX0_takeOut 48 = .ok (.aload_n 0, 1) := by decide +kernel
theorem dX0_takeOut_49 : decode cX0_takeOut 49 = .ok (.getfield 32, 3) := by decide +kernel
theorem dX0_takeOut_52 : decode cX0_takeOut 52 = .ok (.aload_n 0, 1) := by decide +kernel
theorem dX0_takeOut_53 : decode cX0_takeOut 53 = .ok (.getfield 28, 3) := by decide +kernel
theorem dX0_takeOut_56 : decode cX0_takeOut 56 = .ok (.if_icmp .le 7, 3) := by decide +kernel
theorem dX0_takeOut_59 : decode cX0_takeOut 59 = .ok (.aload_n 0, 1) := by decide +kernel
theorem dX0_takeOut_60 : decode cX0_takeOut 60 = .ok (.invokevirtual 135, 3) := by decide +kernel
theorem dX0_takeOut_63 : decode cX0_takeOut 63 = .ok (.return_, 1) := by decide +kernel
theorem dX0_halve_0 : decode cX0_halve 0 = .ok (.aload_n 0, 1) := by decide +kernel
theorem dX0_halve_1 : decode cX0_halve 1 = .ok (.iconst 0, 1) := by decide +kernel
theorem dX0_halve_2 : decode cX0_halve 2 = .ok (.aload_n 0, 1) := by decide +kernel
theorem dX0_halve_3 : decode cX0_halve 3 = .ok (.invokevirtual 61, 3) := by decide +kernel
theorem dX0_halve_6 : decode cX0_halve 6 = .ok (.invokevirtual 118, 3) := by decide +kernel
theorem dX0_halve_9 : decode cX0_halve 9 = .ok (.istore_n 1, 1) := by decide +kernel
theorem dX0_halve_10 : decode cX0_halve 10 = .ok (.aload_n 0, 1) := by decide +kernel
theorem dX0_halve_11 : decode cX0_halve 11 = .ok (.dup, 1) := by decide +kernel
theorem dX0_halve_12 : decode cX0_halve 12 = .ok (.getfield 32, 3) := by decide +kernel
theorem dX0_halve_15 : decode cX0_halve 15 = .ok (.iconst 1, 1) := by decide +kernel
theorem dX0_halve_16 : decode cX0_halve 16 = .ok (.isub, 1) := by decide +kernel
theorem dX0_halve_17 : decode cX0_halve 17 = .ok (.putfield 32, 3) := by decide +kernel
theorem dX0_halve_20 : decode cX0_halve 20 = .ok (.aload_n 0, 1) := by decide +kernel
theorem dX0_halve_21 : decode cX0_halve 21 = .ok (.iconst 0, 1) := by decide +kernel
theorem dX0_halve_22 : decode cX0_halve 22 = .ok (.aload_n 0, 1) := by decide +kernel
theorem dX0_halve_23 : decode cX0_halve 23 = .ok (.getfield 32, 3) := by decide +kernel
theorem dX0_halve_26 : decode cX0_halve 26 = .ok (.iload_n 1, 1) := by decide +kernel
theorem dX0_halve_27 : decode cX0_halve 27 = .ok (.invokevirtual 125, 3) := by decide +kernel
theorem dX0_halve_30 : decode cX0_halve 30 = .ok (.return_, 1) := by decide +kernel
theorem dX0_pack_0 : decode cX0_pack 0 = .ok (.iload_n 1, 1) := by decide +kernel
theorem dX0_pack_1 : decode cX0_pack 1 = .ok (.istore_n 3, 1) := by decide +kernel
theorem dX0_pack_2 : decode cX0_pack 2 = .ok (.iload_n 1, 1) := by decide +kernel
theorem dX0_pack_3 : decode cX0_pack 3 = .ok (.istore 4, 2) := by decide +kernel
theorem dX0_pack_5 : decode cX0_pack 5 = .ok (.iload 4, 2) := by decide +kernel
theorem dX0_pack_7 : decode cX0_pack 7 = .ok (.iload_n 1, 1) := by decide +kernel
theorem dX0_pack_8 : decode cX0_pack 8 = .ok (.iload_n 2, 1) := by decide +kernel
theorem dX0_pack_9 : decode cX0_pack 9 = .ok (.iadd, 1) := by decide +kernel
theorem dX0_pack_10 : decode cX0_pack 10 = .ok (.if_icmp .ge 33, 3) := by decide +kernel
theorem dX0_pack_13 : decode cX0_pack 13 = .ok (.aload_n 0, 1) := by decide +kernel
theorem dX0_pack_14 : decode cX0_pack 14 = .ok (.getfield 9, 3) := by decide +kernel
theorem dX0_pack_17 : decode cX0_pack 17 = .ok (.iload 4, 2) := by decide +kernel
theorem dX0_pack_19 : decode cX0_pack 19 = .ok (.laload, 1) := by decide +kernel
theorem dX0_pack_20 : decode cX0_pack 20 = .ok (.ldc2_w 13, 3) := by decide +kernel
theorem dX0_pack_23 : decode cX0_pack 23 = .ok (.lcmp, 1) := by decide +kernel
theorem dX0_pack_24 : decode cX0_pack 24 = .ok (.ifCond .eq 13, 3) := by decide +kernel
theorem dX0_pack_27 : decode cX0_pack 27 = .ok (.aload_n 0, 1) := by decide +kernel
theorem dX0_pack_28 : decode cX0_pack 28 = .ok (.iload 4, 2) := by decide +kernel
theorem dX0_pack_30 : decode cX0_pack 30 = .ok (.iload_n 3, 1) := by decide +kernel
theorem dX0_pack_31 : decode cX0_pack 31 = .ok (.invokevirtual 138, 3) := by decide +kernel
theorem dX0_pack_34 : decode cX0_pack 34 = .ok (.iinc 3 1, 3) := by decide +kernel
theorem dX0_pack_37 : decode cX0_pack 37 = .ok (.iinc 4 1, 3) := by decide +kernel
theorem dX0_pack_40 : decode cX0_pack 40 = .ok (.goto (-35), 3) := by decide +kernel
theorem dX0_pack_43 : decode cX0_pack 43 = .ok (.iload_n 3, 1) := by decide +kernel
theorem dX0_pack_44 : decode cX0_pack 44 = .ok (.iload_n 1, 1) := by decide +kernel
theorem dX0_pack_45 : decode cX0_pack 45 = .ok (.isub, 1) := by decide +kernel
theorem dX0_pack_46 : decode cX0_pack 46 = .ok (.ireturn, 1) := by decide +kernel
theorem dX0_insertPacked_0 : decode cX0_insertPacked 0 = .ok (.iload_n 1, 1) := by decide +kernel
theorem dX0_insertPacked_1 : decode cX0_insertPacked 1 = .ok (.iload_n 2, 1) := by decide +kernel
theorem dX0_insertPacked_2 : decode cX0_insertPacked 2 = .ok (.iadd, 1) := by decide +kernel
theorem dX0_insertPacked_3 : decode cX0_insertPacked 3 = .ok (.istore 7, 2) := by decide +kernel
theorem dX0_insertPacked_5 : decode cX0_insertPacked 5 = .ok (.iload 7, 2) := by decide +kernel
theorem dX0_insertPacked_7 : decode cX0_insertPacked 7 = .ok (.iload_n 1, 1) := by decide +kernel
theorem dX0_insertPacked_8 : decode cX0_insertPacked 8 = .ok (.if_icmp .le 33, 3) := by decide +kernel
theorem dX0_insertPacked_11 : decode cX0_insertPacked 11 = .ok (.aload_n 0, 1) := by decide +kernel
theorem dX0_insertPacked_12 : decode cX0_insertPacked 12 = .ok (.getfield 9, 3) := by decide +kernel
theorem dX0_insertPacked_15 : decode cX0_insertPacked 15 = .ok (.iload 7, 2) := by decide +kernel
theorem dX0_insertPacked_17 : decode cX0_insertPacked 17 = .ok (.iconst 1, 1) := by decide +kernel
theorem dX0_insertPacked_18 : decode cX0_insertPacked 18 = .ok (.isub, 1) := by decide +kernel
theorem dX0_insertPacked_19 : decode cX0_insertPacked 19 = .ok (.laload, 1) := by decide +kernel
theorem dX0_insertPacked_20 : decode cX0_insertPacked 20 = .ok (.lload_n 3, 1) := by decide +kernel
theorem dX0_insertPacked_21 : decode cX0_insertPacked 21 = .ok (.lcmp, 1) := by decide +kernel
theorem dX0_insertPacked_22 : decode cX0_insertPacked 22 = .ok (.ifCond .le 19, 3) := by decide +kernel
theorem dX0_insertPacked_25 : decode cX0_insertPacked 25 = .ok (.aload_n 0, 1) := by decide +kernel
theorem dX0_insertPacked_26 : decode cX0_insertPacked 26 = .ok (.iload 7, 2) := by decide +kernel
theorem dX0_insertPacked_28 : decode cX0_insertPacked 28 = .ok (.iconst 1, 1) := by decide +kernel
theorem dX0_insertPacked_29 : decode cX0_insertPacked 29 = .ok (.isub, 1) := by decide +kernel
theorem dX0_insertPacked_30 : decode cX0_insertPacked 30 = .ok (.iload 7, 2) := by decide +kernel
theorem dX0_insertPacked_32 : decode cX0_insertPacked 32 = .ok (.invokevirtual 138, 3) := by decide +kernel
theorem dX0_insertPacked_35 : decode cX0_insertPacked 35 = .ok (.iinc 7 (-1), 3) := by decide +kernel
theorem dX0_insertPacked_38 : decode cX0_insertPacked 38 = .ok (.goto (-33), 3) := by decide +kernel
theorem dX0_insertPacked_41 : decode cX0_insertPacked 41 = .ok (.aload_n 0, 1) := by decide +kernel
theorem dX0_insertPacked_42 : decode cX0_insertPacked 42 = .ok (.getfield 9, 3) := by decide +kernel
theorem dX0_insertPacked_45 : decode cX0_insertPacked 45 = .ok (.iload 7, 2) := by decide +kernel
theorem dX0_insertPacked_47 : decode cX0_insertPacked 47 = .ok (.lload_n 3, 1) := by decide +kernel
theorem dX0_insertPacked_48 : decode cX0_insertPacked 48 = .ok (.lastore, 1) := by decide +kernel
theorem dX0_insertPacked_49 : decode cX0_insertPacked 49 = .ok (.aload_n 0, 1) := by decide +kernel
theorem dX0_insertPacked_50 : decode cX0_insertPacked 50 = .ok (.getfield 21, 3) := by decide +kernel
theorem dX0_insertPacked_53 : decode cX0_insertPacked 53 = .ok (.iload 7, 2) := by decide +kernel
theorem dX0_insertPacked_55 : decode cX0_insertPacked 55 = .ok (.lload 5, 2) := by decide +kernel
theorem dX0_insertPacked_57 : decode cX0_insertPacked 57 = .ok (.lastore, 1) := by decide +kernel
theorem dX0_insertPacked_58 : decode cX0_insertPacked 58 = .ok (.return_, 1) := by decide +kernel
theorem dX0_spreadPacked_0 : decode cX0_spreadPacked 0 = .ok (.iload_n 3, 1) := by decide +kernel
theorem dX0_spreadPacked_1 : decode cX0_spreadPacked 1 = .ok (.iconst 1, 1) := by decide +kernel
theorem dX0_spreadPacked_2 : decode cX0_spreadPacked 2 = .ok (.isub, 1) := by decide +kernel
theorem dX0_spreadPacked_3 : decode cX0_spreadPacked 3 = .ok (.istore 4, 2) := by decide +kernel
theorem dX0_spreadPacked_5 : decode cX0_spreadPacked 5 = .ok (.iload 4, 2) := by decide +kernel
theorem dX0_spreadPacked_7 : decode cX0_spreadPacked 7 = .ok (.ifCond .lt 28, 3) := by decide +kernel
theorem dX0_spreadPacked_10 : decode cX0_spreadPacked 10 = .ok (.aload_n 0, 1) := by decide +kernel
theorem dX0_spreadPacked_11 : decode cX0_spreadPacked 11 = .ok (.iload_n 1, 1) := by decide +kernel
theorem dX0_spreadPacked_12 : decode cX0_spreadPacked 12 = .ok (.iload 4, 2) := by decide +kernel
theorem dX0_spreadPacked_14 : decode cX0_spreadPacked 14 = .ok (.iadd, 1) := by decide +kernel
theorem dX0_spreadPacked_15 : decode cX0_spreadPacked 15 = .ok (.iload_n 1, 1) := by decide +kernel
theorem dX0_spreadPacked_16 : decode cX0_spreadPacked 16 = .ok (.iload 4, 2) := by decide +kernel
theorem dX0_spreadPacked_18 : decode cX0_spreadPacked 18 = .ok (.iload_n 2, 1) := by decide +kernel
theorem dX0_spreadPacked_19 : decode cX0_spreadPacked 19 = .ok (.invokestatic 73, 3) := by decide +kernel
theorem dX0_spreadPacked_22 : decode cX0_spreadPacked 22 = .ok (.imul, 1) := by decide +kernel
theorem dX0_spreadPacked_23 : decode cX0_spreadPacked 23 = .ok (.iload_n 3, 1) := by decide +kernel
theorem dX0_spreadPacked_24 : decode cX0_spreadPacked 24 = .ok (.idiv, 1) := by decide +kernel
theorem dX0_spreadPacked_25 : decode cX0_spreadPacked 25 = .ok (.iadd, 1) := by decide +kernel
theorem dX0_spreadPacked_26 : decode cX0_spreadPacked 26 = .ok (.invokevirtual 138, 3) := by decide +kernel
theorem dX0_spreadPacked_29 : decode cX0_spreadPacked 29 = .ok (.iinc 4 (-1), 3) := by decide +kernel
theorem dX0_spreadPacked_32 : decode cX0_spreadPacked 32 = .ok (.goto (-27), 3) := by decide +kernel
theorem dX0_spreadPacked_35 : decode cX0_spreadPacked 35 = .ok (.aload_n 0, 1) := by decide +kernel
theorem dX0_spreadPacked_36 : decode cX0_spreadPacked 36 = .ok (.iload_n 2, 1) := by decide +kernel
theorem dX0_spreadPacked_37 : decode cX0_spreadPacked 37 = .ok (.putfield 35, 3) := by decide +kernel
theorem dX0_spreadPacked_40 : decode cX0_spreadPacked 40 = .ok (.aload_n 0, 1) := by decide +kernel
theorem dX0_spreadPacked_41 : decode cX0_spreadPacked 41 = .ok (.dup, 1) := by decide +kernel
theorem dX0_spreadPacked_42 : decode cX0_spreadPacked 42 = .ok (.getfield 38, 3) := by decide +kernel
theorem dX0_spreadPacked_45 : decode cX0_spreadPacked 45 = .ok (.iload_n 3, 1) := by decide +kernel
theorem dX0_spreadPacked_46 : decode cX0_spreadPacked 46 = .ok (.i2l, 1) := by decide +kernel
theorem dX0_spreadPacked_47 : decode cX0_spreadPacked 47 = .ok (.ladd, 1) := by decide +kernel
theorem dX0_spreadPacked_48 : decode cX0_spreadPacked 48 = .ok (.putfield 38, 3) := by decide +kernel
theorem dX0_spreadPacked_51 : decode cX0_spreadPacked 51 = .ok (.return_, 1) := by decide +kernel
theorem dX0_shift_0 : decode cX0_shift 0 = .ok (.iload_n 1, 1) := by decide +kernel
theorem dX0_shift_1 : decode cX0_shift 1 = .ok (.iload_n 2, 1) := by decide +kernel
theorem dX0_shift_2 : decode cX0_shift 2 = .ok (.if_icmp .eq 32, 3) := by decide +kernel
theorem dX0_shift_5 : decode cX0_shift 5 = .ok (.aload_n 0, 1) := by decide +kernel
theorem dX0_shift_6 : decode cX0_shift 6 = .ok (.getfield 9, 3) := by decide +kernel
theorem dX0_shift_9 : decode cX0_shift 9 = .ok (.iload_n 2, 1) := by decide +kernel
theorem dX0_shift_10 : decode cX0_shift 10 = .ok (.aload_n 0, 1) := by decide +kernel
theorem dX0_shift_11 : decode cX0_shift 11 = .ok (.getfield 9, 3) := by decide +kernel
theorem dX0_shift_14 : decode cX0_shift 14 = .ok (.iload_n 1, 1) := by decide +kernel
theorem dX0_shift_15 : decode cX0_shift 15 = .ok (.laload, 1) := by decide +kernel
theorem dX0_shift_16 : decode cX0_shift 16 = .ok (.lastore, 1) := by decide +kernel
theorem dX0_shift_17 : decode cX0_shift 17 = .ok (.aload_n 0, 1) := by decide +kernel
theorem dX0_shift_18 : decode cX0_shift 18 = .ok (.getfield 21, 3) := by decide +kernel
theorem dX0_shift_21 : decode cX0_shift 21 = .ok (.iload_n 2, 1) := by decide +kernel
theorem dX0_shift_22 : decode cX0_shift 22 = .ok (.aload_n 0, 1) := by decide +kernel
theorem dX0_shift_23 : decode cX0_shift 23 = .ok (.getfield 21, 3) := by decide +kernel
theorem dX0_shift_26 : decode cX0_shift 26 = .ok (.iload_n 1, 1) := by decide +kernel
theorem dX0_shift_27 : decode cX0_shift 27 = .ok (.laload, 1) := by decide +kernel
theorem dX0_shift_28 : decode cX0_shift 28 = .ok (.lastore, 1) := by decide +kernel
theorem dX0_shift_29 : decode cX0_shift 29 = .ok (.aload_n 0, 1) := by decide +kernel
theorem dX0_shift_30 : decode cX0_shift 30 = .ok (.iload_n 1, 1) := by decide +kernel
theorem dX0_shift_31 : decode cX0_shift 31 = .ok (.invokevirtual 129, 3) := by decide +kernel
theorem dX0_shift_34 : decode cX0_shift 34 = .ok (.return_, 1) := by decide +kernel
theorem dX0_clear_0 : decode cX0_clear 0 = .ok (.aload_n 0, 1) := by decide +kernel
theorem dX0_clear_1 : decode cX0_clear 1 = .ok (.getfield 9, 3) := by decide +kernel
theorem dX0_clear_4 : decode cX0_clear 4 = .ok (.iload_n 1, 1) := by decide +kernel
theorem dX0_clear_5 : decode cX0_clear 5 = .ok (.ldc2_w 13, 3) := by decide +kernel
theorem dX0_clear_8 : decode cX0_clear 8 = .ok (.lastore, 1) := by decide +kernel
theorem dX0_clear_9 : decode cX0_clear 9 = .ok (.aload_n 0, 1) := by decide +kernel
theorem dX0_clear_10 : decode cX0_clear 10 = .ok (.getfield 21, 3) := by decide +kernel
theorem dX0_clear_13 : decode cX0_clear 13 = .ok (.iload_n 1, 1) := by decide +kernel
theorem dX0_clear_14 : decode cX0_clear 14 = .ok (.lconst 0, 1) := by decide +kernel
theorem dX0_clear_15 : decode cX0_clear 15 = .ok (.lastore, 1) := by decide +kernel
theorem dX0_clear_16 : decode cX0_clear 16 = .ok (.return_, 1) := by decide +kernel
theorem dJ7_fill_d0a16_0 : decode cJ7_fill_d0a16 0 = .ok (.iconst 0, 1) := by decide +kernel
theorem dJ7_fill_d0a16_1 : decode cJ7_fill_d0a16 1 = .ok (.istore_n 3, 1) := by decide +kernel
theorem dJ7_fill_d0a16_2 : decode cJ7_fill_d0a16 2 = .ok (.aload_n 0, 1) := by decide +kernel
theorem dJ7_fill_d0a16_3 : decode cJ7_fill_d0a16 3 = .ok (.arraylength, 1) := by decide +kernel
theorem dJ7_fill_d0a16_4 : decode cJ7_fill_d0a16 4 = .ok (.istore 4, 2) := by decide +kernel
theorem dJ7_fill_d0a16_6 : decode cJ7_fill_d0a16 6 = .ok (.iload_n 3, 1) := by decide +kernel
theorem dJ7_fill_d0a16_7 : decode cJ7_fill_d0a16 7 = .ok (.iload 4, 2) := by decide +kernel
theorem dJ7_fill_d0a16_9 : decode cJ7_fill_d0a16 9 = .ok (.if_icmp .ge 13, 3) := by decide +kernel
theorem dJ7_fill_d0a16_12 : decode cJ7_fill_d0a16 12 = .ok (.aload_n 0, 1) := by decide +kernel
theorem dJ7_fill_d0a16_13 : decode cJ7_fill_d0a16 13 = .ok (.iload_n 3, 1) := by decide +kernel
theorem dJ7_fill_d0a16_14 : decode cJ7_fill_d0a16 14 = .ok (.lload_n 1, 1) := by decide +kernel
theorem dJ7_fill_d0a16_15 : decode cJ7_fill_d0a16 15 = .ok (.lastore, 1) := by decide +kernel
theorem dJ7_fill_d0a16_16 : decode cJ7_fill_d0a16 16 = .ok (.iinc 3 1, 3) := by decide +kernel
theorem dJ7_fill_d0a16_19 : decode cJ7_fill_d0a16 19 = .ok (.goto (-13), 3) := by decide +kernel
theorem dJ7_fill_d0a16_22 : decode cJ7_fill_d0a16 22 = .ok (.return_, 1) := by decide +kernel
theorem dL_cell_0 : decode cL_cell 0 = .ok (.iload_n 1, 1) := by decide +kernel
theorem dL_cell_1 : decode cL_cell 1 = .ok (.aload_n 0, 1) := by decide +kernel
theorem dL_cell_2 : decode cL_cell 2 = .ok (.arraylength, 1) := by decide +kernel
theorem dL_cell_3 : decode cL_cell 3 = .ok (.if_icmp .ge 9, 3) := by decide +kernel
theorem dL_cell_6 : decode cL_cell 6 = .ok (.aload_n 0, 1) := by decide +kernel
theorem dL_cell_7 : decode cL_cell 7 = .ok (.iload_n 1, 1) := by decide +kernel
theorem dL_cell_8 : decode cL_cell 8 = .ok (.iaload, 1) := by decide +kernel
theorem dL_cell_9 : decode cL_cell 9 = .ok (.goto 4, 3) := by decide +kernel
theorem dL_cell_12 : decode cL_cell 12 = .ok (.iconst 0, 1) := by decide +kernel
theorem dL_cell_13 : decode cL_cell 13 = .ok (.ireturn, 1) := by decide +kernel
end
section
set_option maxHeartbeats 4000000 in
set_option maxRecDepth 100000 in
theorem c_S_segments (l : Launch) (D : va_G) (g : Nat → Nat) (q : Nat → ClassId) (kS : Nat → Int64) (vS : Nat → Int64) (bS : Nat → Int32) (llS : Int32) (lvS : Int32) (lhS : Int32) (mvS : Int64) (post : Int32 → Prop) (hw : wp_S_segments lvS post) (sz : Nat) : Met l yX0_segments wsX0_segments ({ frames := 0, cells := 0, slots := 0, locals := 0 }) (qP D vwCl (tS q) (wS g q kS vS bS llS lvS lhS mvS) sz [.ref (g 0)]) (va_Qi (fun r (_ : Unit) => post r) (qB D vwCl (tS q) (fun _ : Unit => (wS g q kS vS bS llS lvS lhS mvS)) (va_A (wS g q kS vS bS llS lvS lhS mvS) sz)) (va_A (wS g q kS vS bS llS lvS lhS mvS) sz)) 0 0 (va_A (wS g q kS vS bS llS lvS lhS mvS) sz) := by
  refine q_enter (cc := cX0_segments) (maxL := 1) (ret := (some .int)) (fun A => va_Qi (fun r (_ : Unit) => post r) (qB D vwCl (tS q) (fun _ : Unit => (wS g q kS vS bS llS lvS lhS mvS)) A) A) (by decide +kernel) rfl (Nat.le_of_ble_eq_true rfl) ?_
  intro p e s m below meth c A ls hx hb hr hml hown hts hlocks hname hP hK hD hA hl
  replace hown : s.vm.findClass RX0 = some m.cls := hown
  replace hl : lv_has ls 1 [(0, .ref (g 0))] := hl
  have hS : va_S A s.heap s.heap [] := va_S.rf
  have hf_levels := hts _ (List.mem_cons_of_mem _ tfl_X0_32)
  unfold wp_S_segments at hw
  refine lv_iconst (v := 1) hx hb dX0_segments_0 (by decide) ?_
  refine lv_aload_n hx hb dX0_segments_1 rfl (lv_at hl 0 rfl) ?_
  refine va_get (D := D) (ci := 0) (v := .int lvS) (C := RX0) (T := TX0) (N := 7) hx hb hts (fun w h => List.mem_cons_of_mem _ (iX0 w h)) hown hK hP 0 rfl rfl 4 (by decide) hf_levels (fun _ h9 => h9) rfl dX0_segments_2 ?_
  refine lv_ishl hx hb dX0_segments_5 ?_
  exact q_iret () hx hb hr hlocks hK dX0_segments_6 hS hP hD hw
set_option maxHeartbeats 4000000 in
set_option maxRecDepth 100000 in
theorem c_S_depthOf (l : Launch) (D : va_G) (a0 : Int32) (post : Int32 → Prop) (hw : wp_S_depthOf a0 post) (sz : Nat) : Met l yX0_depthOf wsX0_depthOf ({ frames := 0, cells := 0, slots := 0, locals := 0 }) (qP D vwCl [] [] sz [.int a0]) (va_Qi (fun r (_ : Unit) => post r) (qB D vwCl [] (fun _ : Unit => []) (va_A [] sz)) (va_A [] sz)) 0 0 (va_A [] sz) := by
  refine q_enter (cc := cX0_depthOf) (maxL := 3) (ret := (some .int)) (fun A => va_Qi (fun r (_ : Unit) => post r) (qB D vwCl [] (fun _ : Unit => []) A) A) (by decide +kernel) rfl (Nat.le_of_ble_eq_true rfl) ?_
  intro p e s m below meth c A ls hx hb hr hml hown hts hlocks hname hP hK hD hA hl
  replace hown : s.vm.findClass RX0 = some m.cls := hown
  replace hl : lv_has ls 3 [(0, .int a0)] := hl
  have hS : va_S A s.heap s.heap [] := va_S.rf
  have L6 : ∀ (n : Nat) (x1 : Int32) (x2 : Int32), wp_S_depthOf_L6 post n x1 x2 → ∀ (H : Heap) (locs : List Loc) (ls : Array Slot), va_P D vwCl [] H → va_D A [] → va_S A s.heap H locs → lv_has ls 3 [(1, .int x1), (2, .int x2)] → W p l e { frames := 0, cells := 0, slots := 0, locals := 0 } s m ([.int a0] : List Value).toArray below meth c H locs 0 0 (MQ below (va_Qi (fun r (_ : Unit) => post r) (qB D vwCl [] (fun _ : Unit => []) A) A) ([.int a0] : List Value).toArray s 0 0 A) (F0 m 6 ls []) := by
    intro n
    induction n with
    | zero => intro x1 x2 hw; exact False.elim (show False from hw)
    | succ n ih =>
      intro x1 x2 hw H locs ls hP hD hS hl
      rw [wp_S_depthOf_L6] at hw
      refine lv_iload_n hx hb dX0_depthOf_6 rfl (lv_at hl 1 rfl) ?_
      refine lv_iconst (v := 1) hx hb dX0_depthOf_7 (by decide) ?_
      refine lv_icmp_lt (tgt := 21) hx hb dX0_depthOf_8 (by decide) (fun c_1 => ?_) (fun c_1 => ?_)
      · replace hw := hw.1 c_1
        refine lv_iload_n hx hb dX0_depthOf_21 rfl (lv_at hl 0 rfl) ?_
        exact q_iret () hx hb hr hlocks hK dX0_depthOf_22 hS hP hD hw
      · replace hw := hw.2 c_1
        refine lv_iinc (v := (x1 + 1)) (lv' := [(1, .int (x1 + 1)), (2, .int x2)]) hx hb dX0_depthOf_11 hl (k := 0) rfl rfl (by decide) rfl (fun ls hl => ?_)
        refine lv_iload_n hx hb dX0_depthOf_14 rfl (lv_at hl 1 rfl) ?_
        refine lv_iconst (v := 2) hx hb dX0_depthOf_15 (by decide) ?_
        refine lv_idiv hx hb dX0_depthOf_16 (by decide) ?_
        refine lv_istore_n (lv' := [(2, .int (x2 / 2)), (1, .int (x1 + 1))]) hx hb dX0_depthOf_17 rfl hl (by decide) rfl (fun ls hl => ?_)
        refine lv_goto (tgt := 6) hx hb dX0_depthOf_18 (by decide) ?_
        exact ih (x1 + 1) (x2 / 2) hw _ _ ls hP hD hS (lv_sub hl [1, 0] rfl)
  unfold wp_S_depthOf at hw
  refine lv_iconst (v := 0) hx hb dX0_depthOf_0 (by decide) ?_
  refine lv_istore_n (lv' := [(1, .int 0), (0, .int a0)]) hx hb dX0_depthOf_1 rfl hl (by decide) rfl (fun ls hl => ?_)
  refine lv_iload_n hx hb dX0_depthOf_2 rfl (lv_at hl 1 rfl) ?_
  refine lv_iconst (v := 2) hx hb dX0_depthOf_3 (by decide) ?_
  refine lv_idiv hx hb dX0_depthOf_4 (by decide) ?_
  refine lv_istore_n (lv' := [(2, .int (a0 / 2)), (1, .int 0), (0, .int a0)]) hx hb dX0_depthOf_5 rfl hl (by decide) rfl (fun ls hl => ?_)
  obtain ⟨n0, hw⟩ := hw
  exact L6  n0 0 (a0 / 2) hw _ _ ls hP hD hS (lv_sub hl [1, 0] rfl)
set_option maxHeartbeats 4000000 in
set_option maxRecDepth 100000 in
theorem c_S_windowCells (l : Launch) (D : va_G) (a0 : Int32) (post : Int32 → Prop) (hw : wp_S_windowCells a0 post) (sz : Nat) : Met l yX0_windowCells wsX0_windowCells ({ frames := 0, cells := 0, slots := 0, locals := 0 }) (qP D vwCl [] [] sz [.int a0]) (va_Qi (fun r (_ : Unit) => post r) (qB D vwCl [] (fun _ : Unit => []) (va_A [] sz)) (va_A [] sz)) 0 0 (va_A [] sz) := by
  refine q_enter (cc := cX0_windowCells) (maxL := 1) (ret := (some .int)) (fun A => va_Qi (fun r (_ : Unit) => post r) (qB D vwCl [] (fun _ : Unit => []) A) A) (by decide +kernel) rfl (Nat.le_of_ble_eq_true rfl) ?_
  intro p e s m below meth c A ls hx hb hr hml hown hts hlocks hname hP hK hD hA hl
  replace hown : s.vm.findClass RX0 = some m.cls := hown
  replace hl : lv_has ls 1 [(0, .int a0)] := hl
  have hS : va_S A s.heap s.heap [] := va_S.rf
  unfold wp_S_windowCells at hw
  refine lv_bipush (v := 8) hx hb dX0_windowCells_0 (by decide) ?_
  refine lv_iload_n hx hb dX0_windowCells_2 rfl (lv_at hl 0 rfl) ?_
  refine lv_ishl hx hb dX0_windowCells_3 ?_
  exact q_iret () hx hb hr hlocks hK dX0_windowCells_4 hS hP hD hw
set_option maxHeartbeats 4000000 in
set_option maxRecDepth 100000 in
theorem c_S_greatestKey (l : Launch) (D : va_G) (g : Nat → Nat) (q : Nat → ClassId) (kS : Nat → Int64) (vS : Nat → Int64) (bS : Nat → Int32) (llS : Int32) (lvS : Int32) (lhS : Int32) (mvS : Int64) (a1 : Int32) (a2 : Int32) (post : Int64 → Prop) (hw : wp_S_greatestKey kS a1 a2 post) (sz : Nat) : Met l yX0_greatestKey wsX0_greatestKey ({ frames := 0, cells := 0, slots := 0, locals := 0 }) (qP D vwCl (tS q) (wS g q kS vS bS llS lvS lhS mvS) sz [.ref (g 0), .int a1, .int a2]) (va_Ql (fun r (_ : Unit) => post r) (qB D vwCl (tS q) (fun _ : Unit => (wS g q kS vS bS llS lvS lhS mvS)) (va_A (wS g q kS vS bS llS lvS lhS mvS) sz)) (va_A (wS g q kS vS bS llS lvS lhS mvS) sz)) 0 0 (va_A (wS g q kS vS bS llS lvS lhS mvS) sz) := by
  refine q_enter (cc := cX0_greatestKey) (maxL := 4) (ret := (some .long)) (fun A => va_Ql (fun r (_ : Unit) => post r) (qB D vwCl (tS q) (fun _ : Unit => (wS g q kS vS bS llS lvS lhS mvS)) A) A) (by decide +kernel) rfl (Nat.le_of_ble_eq_true rfl) ?_
  intro p e s m below meth c A ls hx hb hr hml hown hts hlocks hname hP hK hD hA hl
  replace hown : s.vm.findClass RX0 = some m.cls := hown
  replace hl : lv_has ls 4 [(0, .ref (g 0)), (1, .int a1), (2, .int a2)] := hl
  have hS : va_S A s.heap s.heap [] := va_S.rf
  have hf_keys := hts _ (List.mem_cons_of_mem _ tfl_X0_9)
  have L6 : ∀ (x1 : Int32) (n : Nat) (x3 : Int32), wp_S_greatestKey_L6 kS x1 post n x3 → ∀ (H : Heap) (locs : List Loc) (ls : Array Slot), va_P D vwCl (wS g q kS vS bS llS lvS lhS mvS) H → va_D A (wS g q kS vS bS llS lvS lhS mvS) → va_S A s.heap H locs → lv_has ls 4 [(0, .ref (g 0)), (1, .int x1), (3, .int x3)] → W p l e { frames := 0, cells := 0, slots := 0, locals := 0 } s m ([.ref (g 0), .int a1, .int a2] : List Value).toArray below meth c H locs 0 0 (MQ below (va_Ql (fun r (_ : Unit) => post r) (qB D vwCl (tS q) (fun _ : Unit => (wS g q kS vS bS llS lvS lhS mvS)) A) A) ([.ref (g 0), .int a1, .int a2] : List Value).toArray s 0 0 A) (F0 m 6 ls []) := by
    intro x1 n
    induction n with
    | zero => intro x3 hw; exact False.elim (show False from hw)
    | succ n ih =>
      intro x3 hw H locs ls hP hD hS hl
      rw [wp_S_greatestKey_L6] at hw
      refine lv_iload_n hx hb dX0_greatestKey_6 rfl (lv_at hl 2 rfl) ?_
      refine lv_iload_n hx hb dX0_greatestKey_7 rfl (lv_at hl 1 rfl) ?_
      refine lv_icmp_lt (tgt := 37) hx hb dX0_greatestKey_8 (by decide) (fun c_1 => ?_) (fun c_1 => ?_)
      · replace hw := hw.1 c_1
        refine lv_ldc2 (v := NOK) hx hb hown (hts _ (List.mem_cons_of_mem _ tcn_X0_13)) dX0_greatestKey_37 ?_
        exact q_lret () hx hb hr hlocks hK dX0_greatestKey_40 hS hP hD hw
      · replace hw := hw.2 c_1
        refine lv_aload_n hx hb dX0_greatestKey_11 rfl (lv_at hl 0 rfl) ?_
        refine va_get (D := D) (ci := 0) (v := .ref (g 1)) (C := RX0) (T := TX0) (N := 7) hx hb hts (fun w h => List.mem_cons_of_mem _ (iX0 w h)) hown hK hP 0 rfl rfl 0 (by decide) hf_keys (fun _ h9 => h9) rfl dX0_greatestKey_12 ?_
        refine lv_iload_n hx hb dX0_greatestKey_15 rfl (lv_at hl 2 rfl) ?_
        obtain ⟨hi_2, hw⟩ := hw
        refine va_lald hx hb hK hP 1 0 rfl rfl hi_2 dX0_greatestKey_16 ?_
        refine lv_ldc2 (v := NOK) hx hb hown (hts _ (List.mem_cons_of_mem _ tcn_X0_13)) dX0_greatestKey_17 ?_
        refine q_lc_eq (tgt := 31) hx hb dX0_greatestKey_20 dX0_greatestKey_21 (by decide) (fun c_3 => ?_) (fun c_3 => ?_)
        · replace hw := hw.1 c_3
          refine lv_iinc (v := (x3 + (-1))) (lv' := [(3, .int (x3 + (-1))), (0, .ref (g 0)), (1, .int x1)]) hx hb dX0_greatestKey_31 hl (k := 2) rfl rfl (by decide) rfl (fun ls hl => ?_)
          refine lv_goto (tgt := 6) hx hb dX0_greatestKey_34 (by decide) ?_
          exact ih (x3 + (-1)) hw _ _ ls hP hD hS (lv_sub hl [1, 2, 0] rfl)
        · replace hw := hw.2 c_3
          refine lv_aload_n hx hb dX0_greatestKey_24 rfl (lv_at hl 0 rfl) ?_
          refine va_get (D := D) (ci := 0) (v := .ref (g 1)) (C := RX0) (T := TX0) (N := 7) hx hb hts (fun w h => List.mem_cons_of_mem _ (iX0 w h)) hown hK hP 0 rfl rfl 0 (by decide) hf_keys (fun _ h9 => h9) rfl dX0_greatestKey_25 ?_
          refine lv_iload_n hx hb dX0_greatestKey_28 rfl (lv_at hl 2 rfl) ?_
          refine va_lald hx hb hK hP 1 0 rfl rfl hi_2 dX0_greatestKey_29 ?_
          exact q_lret () hx hb hr hlocks hK dX0_greatestKey_30 hS hP hD hw
  unfold wp_S_greatestKey at hw
  refine lv_iload_n hx hb dX0_greatestKey_0 rfl (lv_at hl 1 rfl) ?_
  refine lv_iload_n hx hb dX0_greatestKey_1 rfl (lv_at hl 2 rfl) ?_
  refine lv_iadd hx hb dX0_greatestKey_2 ?_
  refine lv_iconst (v := 1) hx hb dX0_greatestKey_3 (by decide) ?_
  refine lv_isub hx hb dX0_greatestKey_4 ?_
  refine lv_istore_n (lv' := [(3, .int ((a1 + a2) - 1)), (0, .ref (g 0)), (1, .int a1), (2, .int a2)]) hx hb dX0_greatestKey_5 rfl hl (by decide) rfl (fun ls hl => ?_)
  obtain ⟨n0, hw⟩ := hw
  exact L6 a1 n0 ((a1 + a2) - 1) hw _ _ ls hP hD hS (lv_sub hl [1, 2, 0] rfl)
set_option maxHeartbeats 4000000 in
set_option maxRecDepth 100000 in
theorem c_S_borneBy (l : Launch) (D : va_G) (g : Nat → Nat) (q : Nat → ClassId) (kS : Nat → Int64) (vS : Nat → Int64) (bS : Nat → Int32) (llS : Int32) (lvS : Int32) (lhS : Int32) (mvS : Int64) (a1 : Int32) (post : Int64 → Prop) (hw : wp_S_borneBy kS lvS a1 post) (sz : Nat) : Met l yX0_borneBy wsX0_borneBy ({ frames := 1, cells := 0, slots := 0, locals := 23 }) (qP D vwCl (tS q) (wS g q kS vS bS llS lvS lhS mvS) sz [.ref (g 0), .int a1]) (va_Ql (fun r (_ : Unit) => post r) (qB D vwCl (tS q) (fun _ : Unit => (wS g q kS vS bS llS lvS lhS mvS)) (va_A (wS g q kS vS bS llS lvS lhS mvS) sz)) (va_A (wS g q kS vS bS llS lvS lhS mvS) sz)) 0 0 (va_A (wS g q kS vS bS llS lvS lhS mvS) sz) := by
  refine q_enter (cc := cX0_borneBy) (maxL := 4) (ret := (some .long)) (fun A => va_Ql (fun r (_ : Unit) => post r) (qB D vwCl (tS q) (fun _ : Unit => (wS g q kS vS bS llS lvS lhS mvS)) A) A) (by decide +kernel) rfl (Nat.le_of_ble_eq_true rfl) ?_
  intro p e s m below meth c A ls hx hb hr hml hown hts hlocks hname hP hK hD hA hl
  replace hown : s.vm.findClass RX0 = some m.cls := hown
  replace hl : lv_has ls 4 [(0, .ref (g 0)), (1, .int a1)] := hl
  have hS : va_S A s.heap s.heap [] := va_S.rf
  have hf_levels := hts _ (List.mem_cons_of_mem _ tfl_X0_32)
  unfold wp_S_borneBy at hw
  refine lv_aload_n hx hb dX0_borneBy_0 rfl (lv_at hl 0 rfl) ?_
  refine va_get (D := D) (ci := 0) (v := .int lvS) (C := RX0) (T := TX0) (N := 7) hx hb hts (fun w h => List.mem_cons_of_mem _ (iX0 w h)) hown hK hP 0 rfl rfl 4 (by decide) hf_levels (fun _ h9 => h9) rfl dX0_borneBy_1 ?_
  refine lv_iload_n hx hb dX0_borneBy_4 rfl (lv_at hl 1 rfl) ?_
  refine q_callSi (As := [.int a1]) (rest := [.int lvS]) (wr := (wS g q kS vS bS llS lvS lhS mvS)) [] [0, 1, 2, 3] ⟨hx, hb, hml, hown, hts⟩ (c_S_depthOf l D a1 _ hw _) (va_cwS 1 hts gX0_borneBy_X0_depthOf rfl rfl rfl (by decide +kernel) ⟨Nat.le_of_ble_eq_true rfl, Nat.le_of_ble_eq_true rfl⟩) (hK.sub (tys' := []) [] rfl) hP hD hS hA rfl rfl rfl (by decide) (by decide) (by decide) rfl hl.1 rfl (Nat.le_of_ble_eq_true rfl) dX0_borneBy_5 ⟨Nat.zero_le _, Nat.zero_le _⟩ (fun r_1 u H locs hw hP hD hS => ?_)
  try dsimp only at hw
  replace hP : va_P D vwCl (wS g q kS vS bS llS lvS lhS mvS) H := hP
  replace hD : va_D A (wS g q kS vS bS llS lvS lhS mvS) := hD
  refine lv_isub hx hb dX0_borneBy_8 ?_
  refine lv_iconst (v := 1) hx hb dX0_borneBy_9 (by decide) ?_
  refine lv_isub hx hb dX0_borneBy_10 ?_
  refine lv_istore_n (lv' := [(2, .int ((lvS - r_1) - 1)), (0, .ref (g 0)), (1, .int a1)]) hx hb dX0_borneBy_11 rfl hl (by decide) rfl (fun ls hl => ?_)
  refine lv_iconst (v := 2) hx hb dX0_borneBy_12 (by decide) ?_
  refine lv_iload_n hx hb dX0_borneBy_13 rfl (lv_at hl 2 rfl) ?_
  refine lv_imul hx hb dX0_borneBy_14 ?_
  refine lv_iload_n hx hb dX0_borneBy_15 rfl (lv_at hl 0 rfl) ?_
  refine lv_ishl hx hb dX0_borneBy_16 ?_
  refine lv_aload_n hx hb dX0_borneBy_17 rfl (lv_at hl 1 rfl) ?_
  refine q_callVi (As := []) (rest := [.int ((2 * a1) <<< (((lvS - r_1) - 1) &&& 31))]) (wr := []) [0, 1, 2, 3] [] ⟨hx, hb, hml, hown, hts⟩ (c_S_segments l D g q kS vS bS llS lvS lhS mvS  _ hw _) (cwV 0 hts gX0_borneBy_X0_segments rfl rfl rfl (by decide +kernel) ⟨Nat.le_of_ble_eq_true rfl, Nat.le_of_ble_eq_true rfl⟩) (va_recv hK hP (ci := 0) (q0 := 0) rfl rfl) hK hP hD hS hA rfl rfl rfl (by decide) (by decide) (by decide) rfl hl.1 rfl (Nat.le_of_ble_eq_true rfl) dX0_borneBy_18 ⟨Nat.zero_le _, Nat.zero_le _⟩ (fun r_2 u H locs hw hP hD hS => ?_)
  try dsimp only at hw
  replace hP : va_P D vwCl (wS g q kS vS bS llS lvS lhS mvS) H := hP
  replace hD : va_D A (wS g q kS vS bS llS lvS lhS mvS) := hD
  refine lv_isub hx hb dX0_borneBy_21 ?_
  refine lv_istore_n (lv' := [(3, .int (((2 * a1) <<< (((lvS - r_1) - 1) &&& 31)) - r_2)), (2, .int ((lvS - r_1) - 1)), (0, .ref (g 0)), (1, .int a1)]) hx hb dX0_borneBy_22 rfl hl (by decide) rfl (fun ls hl => ?_)
  refine lv_aload_n hx hb dX0_borneBy_23 rfl (lv_at hl 2 rfl) ?_
  refine lv_iload_n hx hb dX0_borneBy_24 rfl (lv_at hl 0 rfl) ?_
  refine lv_bipush (v := 8) hx hb dX0_borneBy_25 (by decide) ?_
  refine lv_imul hx hb dX0_borneBy_27 ?_
  refine lv_iload_n hx hb dX0_borneBy_28 rfl (lv_at hl 1 rfl) ?_
  refine q_callSi (As := [.int ((lvS - r_1) - 1)]) (rest := [.int ((((2 * a1) <<< (((lvS - r_1) - 1) &&& 31)) - r_2) * 8), .ref (g 0)]) (wr := (wS g q kS vS bS llS lvS lhS mvS)) [] [0, 1, 2, 3] ⟨hx, hb, hml, hown, hts⟩ (c_S_windowCells l D ((lvS - r_1) - 1) _ hw _) (va_cwS 1 hts gX0_borneBy_X0_windowCells rfl rfl rfl (by decide +kernel) ⟨Nat.le_of_ble_eq_true rfl, Nat.le_of_ble_eq_true rfl⟩) (hK.sub (tys' := []) [] rfl) hP hD hS hA rfl rfl rfl (by decide) (by decide) (by decide) rfl hl.1 rfl (Nat.le_of_ble_eq_true rfl) dX0_borneBy_29 ⟨Nat.zero_le _, Nat.zero_le _⟩ (fun r_3 u H locs hw hP hD hS => ?_)
  try dsimp only at hw
  replace hP : va_P D vwCl (wS g q kS vS bS llS lvS lhS mvS) H := hP
  replace hD : va_D A (wS g q kS vS bS llS lvS lhS mvS) := hD
  refine q_callVl (As := [.int ((((2 * a1) <<< (((lvS - r_1) - 1) &&& 31)) - r_2) * 8), .int r_3]) (rest := []) (wr := []) [0, 1, 2, 3] [] ⟨hx, hb, hml, hown, hts⟩ (c_S_greatestKey l D g q kS vS bS llS lvS lhS mvS ((((2 * a1) <<< (((lvS - r_1) - 1) &&& 31)) - r_2) * 8) r_3 _ hw _) (cwV 2 hts gX0_borneBy_X0_greatestKey rfl rfl rfl (by decide +kernel) ⟨Nat.le_of_ble_eq_true rfl, Nat.le_of_ble_eq_true rfl⟩) (va_recv hK hP (ci := 0) (q0 := 0) rfl rfl) hK hP hD hS hA rfl rfl rfl (by decide) (by decide) (by decide) rfl hl.1 rfl (Nat.le_of_ble_eq_true rfl) dX0_borneBy_32 ⟨Nat.zero_le _, Nat.zero_le _⟩ (fun r_4 u H locs hw hP hD hS => ?_)
  try dsimp only at hw
  replace hP : va_P D vwCl (wS g q kS vS bS llS lvS lhS mvS) H := hP
  replace hD : va_D A (wS g q kS vS bS llS lvS lhS mvS) := hD
  exact q_lret () hx hb hr hlocks hK dX0_borneBy_35 hS hP hD hw
set_option maxHeartbeats 4000000 in
set_option maxRecDepth 100000 in
theorem c_S_seek (l : Launch) (D : va_G) (g : Nat → Nat) (q : Nat → ClassId) (kS : Nat → Int64) (vS : Nat → Int64) (bS : Nat → Int32) (llS : Int32) (lvS : Int32) (lhS : Int32) (mvS : Int64) (a1 : Int64) (post : Int32 → Prop) (hw : wp_S_seek kS lvS a1 post) (sz : Nat) : Met l yX0_seek wsX0_seek ({ frames := 2, cells := 0, slots := 0, locals := 46 }) (qP D vwCl (tS q) (wS g q kS vS bS llS lvS lhS mvS) sz [.ref (g 0), .long a1]) (va_Qi (fun r (_ : Unit) => post r) (qB D vwCl (tS q) (fun _ : Unit => (wS g q kS vS bS llS lvS lhS mvS)) (va_A (wS g q kS vS bS llS lvS lhS mvS) sz)) (va_A (wS g q kS vS bS llS lvS lhS mvS) sz)) 0 0 (va_A (wS g q kS vS bS llS lvS lhS mvS) sz) := by
  refine q_enter (cc := cX0_seek) (maxL := 8) (ret := (some .int)) (fun A => va_Qi (fun r (_ : Unit) => post r) (qB D vwCl (tS q) (fun _ : Unit => (wS g q kS vS bS llS lvS lhS mvS)) A) A) (by decide +kernel) rfl (Nat.le_of_ble_eq_true rfl) ?_
  intro p e s m below meth c A ls hx hb hr hml hown hts hlocks hname hP hK hD hA hl
  replace hown : s.vm.findClass RX0 = some m.cls := hown
  replace hl : lv_has ls 8 [(0, .ref (g 0)), (1, .long a1)] := hl
  have hS : va_S A s.heap s.heap [] := va_S.rf
  have hf_levels := hts _ (List.mem_cons_of_mem _ tfl_X0_32)
  have L5 : ∀ (x1 : Int64) (n : Nat) (x3 : Int32) (x4 : Int32), wp_S_seek_L5 kS lvS x1 post n x3 x4 → ∀ (H : Heap) (locs : List Loc) (ls : Array Slot), va_P D vwCl (wS g q kS vS bS llS lvS lhS mvS) H → va_D A (wS g q kS vS bS llS lvS lhS mvS) → va_S A s.heap H locs → lv_has ls 8 [(0, .ref (g 0)), (1, .long x1), (3, .int x3), (4, .int x4)] → W p l e { frames := 2, cells := 0, slots := 0, locals := 46 } s m ([.ref (g 0), .long a1] : List Value).toArray below meth c H locs 0 0 (MQ below (va_Qi (fun r (_ : Unit) => post r) (qB D vwCl (tS q) (fun _ : Unit => (wS g q kS vS bS llS lvS lhS mvS)) A) A) ([.ref (g 0), .long a1] : List Value).toArray s 0 0 A) (F0 m 5 ls []) := by
    intro x1 n
    induction n with
    | zero => intro x3 x4 hw; exact False.elim (show False from hw)
    | succ n ih =>
      intro x3 x4 hw H locs ls hP hD hS hl
      rw [wp_S_seek_L5] at hw
      refine lv_iload hx hb dX0_seek_5 (lv_at hl 3 rfl) ?_
      refine lv_aload_n hx hb dX0_seek_7 rfl (lv_at hl 0 rfl) ?_
      refine va_get (D := D) (ci := 0) (v := .int lvS) (C := RX0) (T := TX0) (N := 7) hx hb hts (fun w h => List.mem_cons_of_mem _ (iX0 w h)) hown hK hP 0 rfl rfl 4 (by decide) hf_levels (fun _ h9 => h9) rfl dX0_seek_8 ?_
      refine lv_icmp_ge (tgt := 67) hx hb dX0_seek_11 (by decide) (fun c_1 => ?_) (fun c_1 => ?_)
      · replace hw := hw.1 c_1
        refine lv_iload_n hx hb dX0_seek_67 rfl (lv_at hl 2 rfl) ?_
        refine lv_aload_n hx hb dX0_seek_68 rfl (lv_at hl 0 rfl) ?_
        refine q_callVi (As := []) (rest := [.int x3]) (wr := []) [0, 1, 2, 3] [] ⟨hx, hb, hml, hown, hts⟩ (c_S_segments l D g q kS vS bS llS lvS lhS mvS  _ hw _) (cwV 0 hts gX0_seek_X0_segments rfl rfl rfl (by decide +kernel) ⟨Nat.le_of_ble_eq_true rfl, Nat.le_of_ble_eq_true rfl⟩) (va_recv hK hP (ci := 0) (q0 := 0) rfl rfl) hK hP hD hS hA rfl rfl rfl (by decide) (by decide) (by decide) rfl hl.1 rfl (Nat.le_of_ble_eq_true rfl) dX0_seek_69 ⟨Nat.zero_le _, Nat.zero_le _⟩ (fun r_2 u H locs hw hP hD hS => ?_)
        try dsimp only at hw
        replace hP : va_P D vwCl (wS g q kS vS bS llS lvS lhS mvS) H := hP
        replace hD : va_D A (wS g q kS vS bS llS lvS lhS mvS) := hD
        refine lv_isub hx hb dX0_seek_72 ?_
        exact q_iret () hx hb hr hlocks hK dX0_seek_73 hS hP hD hw
      · replace hw := hw.2 c_1
        refine lv_aload_n hx hb dX0_seek_14 rfl (lv_at hl 0 rfl) ?_
        refine lv_iload_n hx hb dX0_seek_15 rfl (lv_at hl 2 rfl) ?_
        refine q_callVl (As := [.int x3]) (rest := []) (wr := []) [0, 1, 2, 3] [] ⟨hx, hb, hml, hown, hts⟩ (c_S_borneBy l D g q kS vS bS llS lvS lhS mvS x3 _ hw _) (cwV 1 hts gX0_seek_X0_borneBy rfl rfl rfl (by decide +kernel) ⟨Nat.le_of_ble_eq_true rfl, Nat.le_of_ble_eq_true rfl⟩) (va_recv hK hP (ci := 0) (q0 := 0) rfl rfl) hK hP hD hS hA rfl rfl rfl (by decide) (by decide) (by decide) rfl hl.1 rfl (Nat.le_of_ble_eq_true rfl) dX0_seek_16 ⟨Nat.zero_le _, Nat.zero_le _⟩ (fun r_3 u H locs hw hP hD hS => ?_)
        try dsimp only at hw
        replace hP : va_P D vwCl (wS g q kS vS bS llS lvS lhS mvS) H := hP
        replace hD : va_D A (wS g q kS vS bS llS lvS lhS mvS) := hD
        refine lv_lstore (lv' := [(5, .long r_3), (0, .ref (g 0)), (1, .long x1), (3, .int x3), (4, .int x4)]) hx hb dX0_seek_19 hl (by decide) rfl (fun ls hl => ?_)
        refine lv_lload hx hb dX0_seek_21 (lv_at hl 0 rfl) ?_
        refine lv_ldc2 (v := NOK) hx hb hown (hts _ (List.mem_cons_of_mem _ tcn_X0_13)) dX0_seek_23 ?_
        refine q_lc_eq (tgt := 41) hx hb dX0_seek_26 dX0_seek_27 (by decide) (fun c_4 => ?_) (fun c_4 => ?_)
        · replace hw := hw.1 c_4
          refine lv_iconst (v := 0) hx hb dX0_seek_41 (by decide) ?_
          refine lv_istore (lv' := [(7, .int 0), (5, .long r_3), (0, .ref (g 0)), (1, .long x1), (3, .int x3), (4, .int x4)]) hx hb dX0_seek_42 hl (by decide) rfl (fun ls hl => ?_)
          refine lv_iload hx hb dX0_seek_44 (lv_at hl 0 rfl) ?_
          refine lv_if_eq (tgt := 55) hx hb dX0_seek_46 (by decide) (fun c_5 => ?_) (fun c_5 => ?_)
          · refine lv_iconst (v := 2) hx hb dX0_seek_55 (by decide) ?_
            refine lv_iload_n hx hb dX0_seek_56 rfl (lv_at hl 4 rfl) ?_
            refine lv_imul hx hb dX0_seek_57 ?_
            refine lv_iconst (v := 1) hx hb dX0_seek_58 (by decide) ?_
            refine lv_iadd hx hb dX0_seek_59 ?_
            refine lv_istore_n (lv' := [(3, .int ((2 * x3) + 1)), (7, .int 0), (5, .long r_3), (0, .ref (g 0)), (1, .long x1), (4, .int x4)]) hx hb dX0_seek_60 rfl hl (by decide) rfl (fun ls hl => ?_)
            refine lv_iinc (v := (x4 + 1)) (lv' := [(4, .int (x4 + 1)), (3, .int ((2 * x3) + 1)), (7, .int 0), (5, .long r_3), (0, .ref (g 0)), (1, .long x1)]) hx hb dX0_seek_61 hl (k := 5) rfl rfl (by decide) rfl (fun ls hl => ?_)
            refine lv_goto (tgt := 5) hx hb dX0_seek_64 (by decide) ?_
            exact ih ((2 * x3) + 1) (x4 + 1) hw _ _ ls hP hD hS (lv_sub hl [4, 5, 1, 0] rfl)
          · exact absurd (by decide) c_5
        · replace hw := hw.2 c_4
          refine lv_lload hx hb dX0_seek_30 (lv_at hl 0 rfl) ?_
          refine lv_lload_n hx hb dX0_seek_32 rfl (lv_at hl 2 rfl) ?_
          refine q_lc_lt (tgt := 41) hx hb dX0_seek_33 dX0_seek_34 (by decide) (fun c_6 => ?_) (fun c_6 => ?_)
          · replace hw := hw.1 c_6
            refine lv_iconst (v := 0) hx hb dX0_seek_41 (by decide) ?_
            refine lv_istore (lv' := [(7, .int 0), (5, .long r_3), (0, .ref (g 0)), (1, .long x1), (3, .int x3), (4, .int x4)]) hx hb dX0_seek_42 hl (by decide) rfl (fun ls hl => ?_)
            refine lv_iload hx hb dX0_seek_44 (lv_at hl 0 rfl) ?_
            refine lv_if_eq (tgt := 55) hx hb dX0_seek_46 (by decide) (fun c_7 => ?_) (fun c_7 => ?_)
            · refine lv_iconst (v := 2) hx hb dX0_seek_55 (by decide) ?_
              refine lv_iload_n hx hb dX0_seek_56 rfl (lv_at hl 4 rfl) ?_
              refine lv_imul hx hb dX0_seek_57 ?_
              refine lv_iconst (v := 1) hx hb dX0_seek_58 (by decide) ?_
              refine lv_iadd hx hb dX0_seek_59 ?_
              refine lv_istore_n (lv' := [(3, .int ((2 * x3) + 1)), (7, .int 0), (5, .long r_3), (0, .ref (g 0)), (1, .long x1), (4, .int x4)]) hx hb dX0_seek_60 rfl hl (by decide) rfl (fun ls hl => ?_)
              refine lv_iinc (v := (x4 + 1)) (lv' := [(4, .int (x4 + 1)), (3, .int ((2 * x3) + 1)), (7, .int 0), (5, .long r_3), (0, .ref (g 0)), (1, .long x1)]) hx hb dX0_seek_61 hl (k := 5) rfl rfl (by decide) rfl (fun ls hl => ?_)
              refine lv_goto (tgt := 5) hx hb dX0_seek_64 (by decide) ?_
              exact ih ((2 * x3) + 1) (x4 + 1) hw _ _ ls hP hD hS (lv_sub hl [4, 5, 1, 0] rfl)
            · exact absurd (by decide) c_7
          · replace hw := hw.2 c_6
            refine lv_iconst (v := 1) hx hb dX0_seek_37 (by decide) ?_
            refine lv_goto (tgt := 42) hx hb dX0_seek_38 (by decide) ?_
            refine lv_istore (lv' := [(7, .int 1), (5, .long r_3), (0, .ref (g 0)), (1, .long x1), (3, .int x3), (4, .int x4)]) hx hb dX0_seek_42 hl (by decide) rfl (fun ls hl => ?_)
            refine lv_iload hx hb dX0_seek_44 (lv_at hl 0 rfl) ?_
            refine lv_if_eq (tgt := 55) hx hb dX0_seek_46 (by decide) (fun c_8 => ?_) (fun c_8 => ?_)
            · exact absurd c_8 (by decide)
            · refine lv_iconst (v := 2) hx hb dX0_seek_49 (by decide) ?_
              refine lv_iload_n hx hb dX0_seek_50 rfl (lv_at hl 4 rfl) ?_
              refine lv_imul hx hb dX0_seek_51 ?_
              refine lv_goto (tgt := 60) hx hb dX0_seek_52 (by decide) ?_
              refine lv_istore_n (lv' := [(3, .int (2 * x3)), (7, .int 1), (5, .long r_3), (0, .ref (g 0)), (1, .long x1), (4, .int x4)]) hx hb dX0_seek_60 rfl hl (by decide) rfl (fun ls hl => ?_)
              refine lv_iinc (v := (x4 + 1)) (lv' := [(4, .int (x4 + 1)), (3, .int (2 * x3)), (7, .int 1), (5, .long r_3), (0, .ref (g 0)), (1, .long x1)]) hx hb dX0_seek_61 hl (k := 5) rfl rfl (by decide) rfl (fun ls hl => ?_)
              refine lv_goto (tgt := 5) hx hb dX0_seek_64 (by decide) ?_
              exact ih (2 * x3) (x4 + 1) hw _ _ ls hP hD hS (lv_sub hl [4, 5, 1, 0] rfl)
  unfold wp_S_seek at hw
  refine lv_iconst (v := 1) hx hb dX0_seek_0 (by decide) ?_
  refine lv_istore_n (lv' := [(3, .int 1), (0, .ref (g 0)), (1, .long a1)]) hx hb dX0_seek_1 rfl hl (by decide) rfl (fun ls hl => ?_)
  refine lv_iconst (v := 0) hx hb dX0_seek_2 (by decide) ?_
  refine lv_istore (lv' := [(4, .int 0), (3, .int 1), (0, .ref (g 0)), (1, .long a1)]) hx hb dX0_seek_3 hl (by decide) rfl (fun ls hl => ?_)
  obtain ⟨n0, hw⟩ := hw
  exact L5 a1 n0 1 0 hw _ _ ls hP hD hS (lv_sub hl [2, 3, 1, 0] rfl)
set_option maxHeartbeats 4000000 in
set_option maxRecDepth 100000 in
theorem c_S_cellNotBelow (l : Launch) (D : va_G) (g : Nat → Nat) (q : Nat → ClassId) (kS : Nat → Int64) (vS : Nat → Int64) (bS : Nat → Int32) (llS : Int32) (lvS : Int32) (lhS : Int32) (mvS : Int64) (a1 : Int64) (post : Int32 → Prop) (hw : wp_S_cellNotBelow kS lvS a1 post) (sz : Nat) : Met l yX0_cellNotBelow wsX0_cellNotBelow ({ frames := 3, cells := 0, slots := 0, locals := 73 }) (qP D vwCl (tS q) (wS g q kS vS bS llS lvS lhS mvS) sz [.ref (g 0), .long a1]) (va_Qi (fun r (_ : Unit) => post r) (qB D vwCl (tS q) (fun _ : Unit => (wS g q kS vS bS llS lvS lhS mvS)) (va_A (wS g q kS vS bS llS lvS lhS mvS) sz)) (va_A (wS g q kS vS bS llS lvS lhS mvS) sz)) 0 0 (va_A (wS g q kS vS bS llS lvS lhS mvS) sz) := by
  refine q_enter (cc := cX0_cellNotBelow) (maxL := 5) (ret := (some .int)) (fun A => va_Qi (fun r (_ : Unit) => post r) (qB D vwCl (tS q) (fun _ : Unit => (wS g q kS vS bS llS lvS lhS mvS)) A) A) (by decide +kernel) rfl (Nat.le_of_ble_eq_true rfl) ?_
  intro p e s m below meth c A ls hx hb hr hml hown hts hlocks hname hP hK hD hA hl
  replace hown : s.vm.findClass RX0 = some m.cls := hown
  replace hl : lv_has ls 5 [(0, .ref (g 0)), (1, .long a1)] := hl
  have hS : va_S A s.heap s.heap [] := va_S.rf
  have hf_keys := hts _ (List.mem_cons_of_mem _ tfl_X0_9)
  have L12 : ∀ (x1 : Int64) (x3 : Int32) (n : Nat) (x4 : Int32), wp_S_cellNotBelow_L12 kS lvS x1 x3 post n x4 → ∀ (H : Heap) (locs : List Loc) (ls : Array Slot), va_P D vwCl (wS g q kS vS bS llS lvS lhS mvS) H → va_D A (wS g q kS vS bS llS lvS lhS mvS) → va_S A s.heap H locs → lv_has ls 5 [(0, .ref (g 0)), (1, .long x1), (3, .int x3), (4, .int x4)] → W p l e { frames := 3, cells := 0, slots := 0, locals := 73 } s m ([.ref (g 0), .long a1] : List Value).toArray below meth c H locs 0 0 (MQ below (va_Qi (fun r (_ : Unit) => post r) (qB D vwCl (tS q) (fun _ : Unit => (wS g q kS vS bS llS lvS lhS mvS)) A) A) ([.ref (g 0), .long a1] : List Value).toArray s 0 0 A) (F0 m 12 ls []) := by
    intro x1 x3 n
    induction n with
    | zero => intro x4 hw; exact False.elim (show False from hw)
    | succ n ih =>
      intro x4 hw H locs ls hP hD hS hl
      rw [wp_S_cellNotBelow_L12] at hw
      refine lv_iload hx hb dX0_cellNotBelow_12 (lv_at hl 3 rfl) ?_
      refine lv_iload_n hx hb dX0_cellNotBelow_14 rfl (lv_at hl 2 rfl) ?_
      refine lv_bipush (v := 8) hx hb dX0_cellNotBelow_15 (by decide) ?_
      refine lv_iadd hx hb dX0_cellNotBelow_17 ?_
      refine lv_icmp_ge (tgt := 56) hx hb dX0_cellNotBelow_18 (by decide) (fun c_2 => ?_) (fun c_2 => ?_)
      · replace hw := hw.1 c_2
        refine lv_iconst (v := (-1)) hx hb dX0_cellNotBelow_56 (by decide) ?_
        exact q_iret () hx hb hr hlocks hK dX0_cellNotBelow_57 hS hP hD hw
      · replace hw := hw.2 c_2
        refine lv_aload_n hx hb dX0_cellNotBelow_21 rfl (lv_at hl 0 rfl) ?_
        refine va_get (D := D) (ci := 0) (v := .ref (g 1)) (C := RX0) (T := TX0) (N := 7) hx hb hts (fun w h => List.mem_cons_of_mem _ (iX0 w h)) hown hK hP 0 rfl rfl 0 (by decide) hf_keys (fun _ h9 => h9) rfl dX0_cellNotBelow_22 ?_
        refine lv_iload hx hb dX0_cellNotBelow_25 (lv_at hl 3 rfl) ?_
        obtain ⟨hi_3, hw⟩ := hw
        refine va_lald hx hb hK hP 1 0 rfl rfl hi_3 dX0_cellNotBelow_27 ?_
        refine lv_ldc2 (v := NOK) hx hb hown (hts _ (List.mem_cons_of_mem _ tcn_X0_13)) dX0_cellNotBelow_28 ?_
        refine q_lc_eq (tgt := 50) hx hb dX0_cellNotBelow_31 dX0_cellNotBelow_32 (by decide) (fun c_4 => ?_) (fun c_4 => ?_)
        · replace hw := hw.1 c_4
          refine lv_iinc (v := (x4 + 1)) (lv' := [(4, .int (x4 + 1)), (0, .ref (g 0)), (1, .long x1), (3, .int x3)]) hx hb dX0_cellNotBelow_50 hl (k := 3) rfl rfl (by decide) rfl (fun ls hl => ?_)
          refine lv_goto (tgt := 12) hx hb dX0_cellNotBelow_53 (by decide) ?_
          exact ih (x4 + 1) hw _ _ ls hP hD hS (lv_sub hl [1, 2, 3, 0] rfl)
        · replace hw := hw.2 c_4
          refine lv_aload_n hx hb dX0_cellNotBelow_35 rfl (lv_at hl 0 rfl) ?_
          refine va_get (D := D) (ci := 0) (v := .ref (g 1)) (C := RX0) (T := TX0) (N := 7) hx hb hts (fun w h => List.mem_cons_of_mem _ (iX0 w h)) hown hK hP 0 rfl rfl 0 (by decide) hf_keys (fun _ h9 => h9) rfl dX0_cellNotBelow_36 ?_
          refine lv_iload hx hb dX0_cellNotBelow_39 (lv_at hl 3 rfl) ?_
          refine va_lald hx hb hK hP 1 0 rfl rfl hi_3 dX0_cellNotBelow_41 ?_
          refine lv_lload_n hx hb dX0_cellNotBelow_42 rfl (lv_at hl 1 rfl) ?_
          refine q_lc_lt (tgt := 50) hx hb dX0_cellNotBelow_43 dX0_cellNotBelow_44 (by decide) (fun c_5 => ?_) (fun c_5 => ?_)
          · replace hw := hw.1 c_5
            refine lv_iinc (v := (x4 + 1)) (lv' := [(4, .int (x4 + 1)), (0, .ref (g 0)), (1, .long x1), (3, .int x3)]) hx hb dX0_cellNotBelow_50 hl (k := 3) rfl rfl (by decide) rfl (fun ls hl => ?_)
            refine lv_goto (tgt := 12) hx hb dX0_cellNotBelow_53 (by decide) ?_
            exact ih (x4 + 1) hw _ _ ls hP hD hS (lv_sub hl [1, 2, 3, 0] rfl)
          · replace hw := hw.2 c_5
            refine lv_iload hx hb dX0_cellNotBelow_47 (lv_at hl 3 rfl) ?_
            exact q_iret () hx hb hr hlocks hK dX0_cellNotBelow_49 hS hP hD hw
  unfold wp_S_cellNotBelow at hw
  refine lv_aload_n hx hb dX0_cellNotBelow_0 rfl (lv_at hl 0 rfl) ?_
  refine lv_lload_n hx hb dX0_cellNotBelow_1 rfl (lv_at hl 1 rfl) ?_
  refine q_callVi (As := [.long a1]) (rest := []) (wr := []) [0, 1, 2, 3] [] ⟨hx, hb, hml, hown, hts⟩ (c_S_seek l D g q kS vS bS llS lvS lhS mvS a1 _ hw _) (cwV 1 hts gX0_cellNotBelow_X0_seek rfl rfl rfl (by decide +kernel) ⟨Nat.le_of_ble_eq_true rfl, Nat.le_of_ble_eq_true rfl⟩) (va_recv hK hP (ci := 0) (q0 := 0) rfl rfl) hK hP hD hS hA rfl rfl rfl (by decide) (by decide) (by decide) rfl hl.1 rfl (Nat.le_of_ble_eq_true rfl) dX0_cellNotBelow_2 ⟨Nat.zero_le _, Nat.zero_le _⟩ (fun r_1 u H locs hw hP hD hS => ?_)
  try dsimp only at hw
  replace hP : va_P D vwCl (wS g q kS vS bS llS lvS lhS mvS) H := hP
  replace hD : va_D A (wS g q kS vS bS llS lvS lhS mvS) := hD
  refine lv_bipush (v := 8) hx hb dX0_cellNotBelow_5 (by decide) ?_
  refine lv_imul hx hb dX0_cellNotBelow_7 ?_
  refine lv_istore_n (lv' := [(3, .int (r_1 * 8)), (0, .ref (g 0)), (1, .long a1)]) hx hb dX0_cellNotBelow_8 rfl hl (by decide) rfl (fun ls hl => ?_)
  refine lv_iload_n hx hb dX0_cellNotBelow_9 rfl (lv_at hl 0 rfl) ?_
  refine lv_istore (lv' := [(4, .int (r_1 * 8)), (3, .int (r_1 * 8)), (0, .ref (g 0)), (1, .long a1)]) hx hb dX0_cellNotBelow_10 hl (by decide) rfl (fun ls hl => ?_)
  obtain ⟨n0, hw⟩ := hw
  exact L12 a1 (r_1 * 8) n0 (r_1 * 8) hw _ _ ls hP hD hS (lv_sub hl [2, 3, 1, 0] rfl)
set_option maxHeartbeats 4000000 in
set_option maxRecDepth 100000 in
theorem c_S_cellOf (l : Launch) (D : va_G) (g : Nat → Nat) (q : Nat → ClassId) (kS : Nat → Int64) (vS : Nat → Int64) (bS : Nat → Int32) (llS : Int32) (lvS : Int32) (lhS : Int32) (mvS : Int64) (a1 : Int64) (post : Int32 → Prop) (hw : wp_S_cellOf kS lvS a1 post) (sz : Nat) : Met l yX0_cellOf wsX0_cellOf ({ frames := 4, cells := 0, slots := 0, locals := 97 }) (qP D vwCl (tS q) (wS g q kS vS bS llS lvS lhS mvS) sz [.ref (g 0), .long a1]) (va_Qi (fun r (_ : Unit) => post r) (qB D vwCl (tS q) (fun _ : Unit => (wS g q kS vS bS llS lvS lhS mvS)) (va_A (wS g q kS vS bS llS lvS lhS mvS) sz)) (va_A (wS g q kS vS bS llS lvS lhS mvS) sz)) 0 0 (va_A (wS g q kS vS bS llS lvS lhS mvS) sz) := by
  refine q_enter (cc := cX0_cellOf) (maxL := 4) (ret := (some .int)) (fun A => va_Qi (fun r (_ : Unit) => post r) (qB D vwCl (tS q) (fun _ : Unit => (wS g q kS vS bS llS lvS lhS mvS)) A) A) (by decide +kernel) rfl (Nat.le_of_ble_eq_true rfl) ?_
  intro p e s m below meth c A ls hx hb hr hml hown hts hlocks hname hP hK hD hA hl
  replace hown : s.vm.findClass RX0 = some m.cls := hown
  replace hl : lv_has ls 4 [(0, .ref (g 0)), (1, .long a1)] := hl
  have hS : va_S A s.heap s.heap [] := va_S.rf
  have hf_keys := hts _ (List.mem_cons_of_mem _ tfl_X0_9)
  unfold wp_S_cellOf at hw
  refine lv_aload_n hx hb dX0_cellOf_0 rfl (lv_at hl 0 rfl) ?_
  refine lv_lload_n hx hb dX0_cellOf_1 rfl (lv_at hl 1 rfl) ?_
  refine q_callVi (As := [.long a1]) (rest := []) (wr := []) [0, 1, 2, 3] [] ⟨hx, hb, hml, hown, hts⟩ (c_S_cellNotBelow l D g q kS vS bS llS lvS lhS mvS a1 _ hw _) (cwV 1 hts gX0_cellOf_X0_cellNotBelow rfl rfl rfl (by decide +kernel) ⟨Nat.le_of_ble_eq_true rfl, Nat.le_of_ble_eq_true rfl⟩) (va_recv hK hP (ci := 0) (q0 := 0) rfl rfl) hK hP hD hS hA rfl rfl rfl (by decide) (by decide) (by decide) rfl hl.1 rfl (Nat.le_of_ble_eq_true rfl) dX0_cellOf_2 ⟨Nat.zero_le _, Nat.zero_le _⟩ (fun r_1 u H locs hw hP hD hS => ?_)
  try dsimp only at hw
  replace hP : va_P D vwCl (wS g q kS vS bS llS lvS lhS mvS) H := hP
  replace hD : va_D A (wS g q kS vS bS llS lvS lhS mvS) := hD
  refine lv_istore_n (lv' := [(3, .int r_1), (0, .ref (g 0)), (1, .long a1)]) hx hb dX0_cellOf_5 rfl hl (by decide) rfl (fun ls hl => ?_)
  refine lv_iload_n hx hb dX0_cellOf_6 rfl (lv_at hl 0 rfl) ?_
  refine lv_iconst (v := (-1)) hx hb dX0_cellOf_7 (by decide) ?_
  refine lv_icmp_eq (tgt := 26) hx hb dX0_cellOf_8 (by decide) (fun c_2 => ?_) (fun c_2 => ?_)
  · replace hw := hw.1 c_2
    refine lv_iconst (v := (-1)) hx hb dX0_cellOf_26 (by decide) ?_
    exact q_iret () hx hb hr hlocks hK dX0_cellOf_27 hS hP hD hw
  · replace hw := hw.2 c_2
    refine lv_aload_n hx hb dX0_cellOf_11 rfl (lv_at hl 1 rfl) ?_
    refine va_get (D := D) (ci := 0) (v := .ref (g 1)) (C := RX0) (T := TX0) (N := 7) hx hb hts (fun w h => List.mem_cons_of_mem _ (iX0 w h)) hown hK hP 0 rfl rfl 0 (by decide) hf_keys (fun _ h9 => h9) rfl dX0_cellOf_12 ?_
    refine lv_iload_n hx hb dX0_cellOf_15 rfl (lv_at hl 0 rfl) ?_
    obtain ⟨hi_3, hw⟩ := hw
    refine va_lald hx hb hK hP 1 0 rfl rfl hi_3 dX0_cellOf_16 ?_
    refine lv_lload_n hx hb dX0_cellOf_17 rfl (lv_at hl 2 rfl) ?_
    refine q_lc_ne (tgt := 26) hx hb dX0_cellOf_18 dX0_cellOf_19 (by decide) (fun c_4 => ?_) (fun c_4 => ?_)
    · replace hw := hw.2 c_4
      refine lv_iconst (v := (-1)) hx hb dX0_cellOf_26 (by decide) ?_
      exact q_iret () hx hb hr hlocks hK dX0_cellOf_27 hS hP hD hw
    · replace hw := hw.1 c_4
      refine lv_iload_n hx hb dX0_cellOf_22 rfl (lv_at hl 0 rfl) ?_
      refine lv_goto (tgt := 27) hx hb dX0_cellOf_23 (by decide) ?_
      exact q_iret () hx hb hr hlocks hK dX0_cellOf_27 hS hP hD hw
end
