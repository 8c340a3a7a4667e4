section
-- ===== PART A: goes FIRST, ahead of the names: the tables' words, and 'selects' of the private methods out of them =====
/-- a private method of a class that the tables say can be made, by its rows of tables_1 -/
def lw_okq (q : MethodName × Nat) : Prop := (q.1.cls ≠ "java/lang/invoke/MethodHandle" ∧ q.1.cls ≠ "java/lang/invoke/VarHandle") ∧ Cond.instantiable q.1.cls q.2 ∈ tables_1 ∧ Cond.privateMethod q.1 ∈ tables_1 ∧ Cond.instanceMethod q.1 ∈ tables_1
theorem lw_p0 : lw_okq (⟨"LayeredTree", "isLayer", "(I)Z"⟩, 8) := ⟨⟨by decide +kernel, by decide +kernel⟩, List.mem_of_getElem? (i := 8) (by decide +kernel), List.mem_of_getElem? (i := 75) (by decide +kernel), List.mem_of_getElem? (i := 76) (by decide +kernel)⟩
theorem lw_p1 : lw_okq (⟨"LayeredTree", "hasRoomIn", "(I)Z"⟩, 8) := ⟨⟨by decide +kernel, by decide +kernel⟩, List.mem_of_getElem? (i := 8) (by decide +kernel), List.mem_of_getElem? (i := 98) (by decide +kernel), List.mem_of_getElem? (i := 99) (by decide +kernel)⟩
theorem lw_p2 : lw_okq (⟨"LayeredTree", "placeOrRefusal", "(I)I"⟩, 8) := ⟨⟨by decide +kernel, by decide +kernel⟩, List.mem_of_getElem? (i := 8) (by decide +kernel), List.mem_of_getElem? (i := 121) (by decide +kernel), List.mem_of_getElem? (i := 122) (by decide +kernel)⟩
theorem lw_p3 : lw_okq (⟨"LayeredTree", "find", "(I)I"⟩, 8) := ⟨⟨by decide +kernel, by decide +kernel⟩, List.mem_of_getElem? (i := 8) (by decide +kernel), List.mem_of_getElem? (i := 125) (by decide +kernel), List.mem_of_getElem? (i := 126) (by decide +kernel)⟩
theorem lw_p4 : lw_okq (⟨"LayeredTree", "allParts", "()I"⟩, 8) := ⟨⟨by decide +kernel, by decide +kernel⟩, List.mem_of_getElem? (i := 8) (by decide +kernel), List.mem_of_getElem? (i := 129) (by decide +kernel), List.mem_of_getElem? (i := 130) (by decide +kernel)⟩
theorem lw_p5 : lw_okq (⟨"LayeredTree", "findAmong", "(II)I"⟩, 8) := ⟨⟨by decide +kernel, by decide +kernel⟩, List.mem_of_getElem? (i := 8) (by decide +kernel), List.mem_of_getElem? (i := 143) (by decide +kernel), List.mem_of_getElem? (i := 144) (by decide +kernel)⟩
theorem lw_p6 : lw_okq (⟨"LayeredTree", "directoryPlaceOrRefusal", "(I)I"⟩, 8) := ⟨⟨by decide +kernel, by decide +kernel⟩, List.mem_of_getElem? (i := 8) (by decide +kernel), List.mem_of_getElem? (i := 171) (by decide +kernel), List.mem_of_getElem? (i := 172) (by decide +kernel)⟩
theorem lw_p7 : lw_okq (⟨"LayeredTree", "countIn", "(II)I"⟩, 8) := ⟨⟨by decide +kernel, by decide +kernel⟩, List.mem_of_getElem? (i := 8) (by decide +kernel), List.mem_of_getElem? (i := 175) (by decide +kernel), List.mem_of_getElem? (i := 176) (by decide +kernel)⟩
theorem lw_p8 : lw_okq (⟨"LayeredTree", "countBelow", "(II)I"⟩, 8) := ⟨⟨by decide +kernel, by decide +kernel⟩, List.mem_of_getElem? (i := 8) (by decide +kernel), List.mem_of_getElem? (i := 188) (by decide +kernel), List.mem_of_getElem? (i := 189) (by decide +kernel)⟩
theorem lw_p9 : lw_okq (⟨"LayeredTree", "objectPlaceOrRefusal", "(I)I"⟩, 8) := ⟨⟨by decide +kernel, by decide +kernel⟩, List.mem_of_getElem? (i := 8) (by decide +kernel), List.mem_of_getElem? (i := 196) (by decide +kernel), List.mem_of_getElem? (i := 197) (by decide +kernel)⟩
theorem lw_p10 : lw_okq (⟨"LayeredTree", "originOf", "(I)I"⟩, 8) := ⟨⟨by decide +kernel, by decide +kernel⟩, List.mem_of_getElem? (i := 8) (by decide +kernel), List.mem_of_getElem? (i := 200) (by decide +kernel), List.mem_of_getElem? (i := 201) (by decide +kernel)⟩
theorem lw_p11 : lw_okq (⟨"LayeredTree", "keepUpper", "()V"⟩, 8) := ⟨⟨by decide +kernel, by decide +kernel⟩, List.mem_of_getElem? (i := 8) (by decide +kernel), List.mem_of_getElem? (i := 208) (by decide +kernel), List.mem_of_getElem? (i := 209) (by decide +kernel)⟩
theorem lw_p12 : lw_okq (⟨"LayeredTree", "makeAt", "(II)V"⟩, 8) := ⟨⟨by decide +kernel, by decide +kernel⟩, List.mem_of_getElem? (i := 8) (by decide +kernel), List.mem_of_getElem? (i := 219) (by decide +kernel), List.mem_of_getElem? (i := 220) (by decide +kernel)⟩
theorem lw_p13 : lw_okq (⟨"LayeredTree", "raise", "(I)V"⟩, 8) := ⟨⟨by decide +kernel, by decide +kernel⟩, List.mem_of_getElem? (i := 8) (by decide +kernel), List.mem_of_getElem? (i := 223) (by decide +kernel), List.mem_of_getElem? (i := 224) (by decide +kernel)⟩
theorem lw_p14 : lw_okq (⟨"LayeredTree", "isCovered", "(I)Z"⟩, 8) := ⟨⟨by decide +kernel, by decide +kernel⟩, List.mem_of_getElem? (i := 8) (by decide +kernel), List.mem_of_getElem? (i := 234) (by decide +kernel), List.mem_of_getElem? (i := 235) (by decide +kernel)⟩
theorem lw_p15 : lw_okq (⟨"LayeredTree", "settle", "()I"⟩, 8) := ⟨⟨by decide +kernel, by decide +kernel⟩, List.mem_of_getElem? (i := 8) (by decide +kernel), List.mem_of_getElem? (i := 238) (by decide +kernel), List.mem_of_getElem? (i := 239) (by decide +kernel)⟩
def lw_privs_1 : List (MethodName × Nat) := [(⟨"LayeredTree", "isLayer", "(I)Z"⟩, 8), (⟨"LayeredTree", "hasRoomIn", "(I)Z"⟩, 8), (⟨"LayeredTree", "placeOrRefusal", "(I)I"⟩, 8), (⟨"LayeredTree", "find", "(I)I"⟩, 8), (⟨"LayeredTree", "allParts", "()I"⟩, 8), (⟨"LayeredTree", "findAmong", "(II)I"⟩, 8), (⟨"LayeredTree", "directoryPlaceOrRefusal", "(I)I"⟩, 8), (⟨"LayeredTree", "countIn", "(II)I"⟩, 8), (⟨"LayeredTree", "countBelow", "(II)I"⟩, 8), (⟨"LayeredTree", "objectPlaceOrRefusal", "(I)I"⟩, 8), (⟨"LayeredTree", "originOf", "(I)I"⟩, 8), (⟨"LayeredTree", "keepUpper", "()V"⟩, 8), (⟨"LayeredTree", "makeAt", "(II)V"⟩, 8), (⟨"LayeredTree", "raise", "(I)V"⟩, 8), (⟨"LayeredTree", "isCovered", "(I)Z"⟩, 8), (⟨"LayeredTree", "settle", "()I"⟩, 8)]
theorem lw_r1 : ∀ q ∈ lw_privs_1, lw_okq q := List.forall_mem_cons.mpr ⟨lw_p0, List.forall_mem_cons.mpr ⟨lw_p1, List.forall_mem_cons.mpr ⟨lw_p2, List.forall_mem_cons.mpr ⟨lw_p3, List.forall_mem_cons.mpr ⟨lw_p4, List.forall_mem_cons.mpr ⟨lw_p5, List.forall_mem_cons.mpr ⟨lw_p6, List.forall_mem_cons.mpr ⟨lw_p7, List.forall_mem_cons.mpr ⟨lw_p8, List.forall_mem_cons.mpr ⟨lw_p9, List.forall_mem_cons.mpr ⟨lw_p10, List.forall_mem_cons.mpr ⟨lw_p11, List.forall_mem_cons.mpr ⟨lw_p12, List.forall_mem_cons.mpr ⟨lw_p13, List.forall_mem_cons.mpr ⟨lw_p14, List.forall_mem_cons.mpr ⟨lw_p15, fun _ h => absurd h List.not_mem_nil⟩⟩⟩⟩⟩⟩⟩⟩⟩⟩⟩⟩⟩⟩⟩⟩
theorem lw_p16 : lw_okq (⟨"LayeredTree", "isFilledDirectory", "(II)Z"⟩, 8) := ⟨⟨by decide +kernel, by decide +kernel⟩, List.mem_of_getElem? (i := 8) (by decide +kernel), List.mem_of_getElem? (i := 250) (by decide +kernel), List.mem_of_getElem? (i := 251) (by decide +kernel)⟩
theorem lw_p17 : lw_okq (⟨"LayeredTree", "unmakeAt", "(I)V"⟩, 8) := ⟨⟨by decide +kernel, by decide +kernel⟩, List.mem_of_getElem? (i := 8) (by decide +kernel), List.mem_of_getElem? (i := 254) (by decide +kernel), List.mem_of_getElem? (i := 255) (by decide +kernel)⟩
theorem lw_p18 : lw_okq (⟨"LayeredTree", "refusalOfTarget", "(II)I"⟩, 8) := ⟨⟨by decide +kernel, by decide +kernel⟩, List.mem_of_getElem? (i := 8) (by decide +kernel), List.mem_of_getElem? (i := 262) (by decide +kernel), List.mem_of_getElem? (i := 263) (by decide +kernel)⟩
theorem lw_p19 : lw_okq (⟨"LayeredTree", "noteFrom", "(I)V"⟩, 8) := ⟨⟨by decide +kernel, by decide +kernel⟩, List.mem_of_getElem? (i := 8) (by decide +kernel), List.mem_of_getElem? (i := 270) (by decide +kernel), List.mem_of_getElem? (i := 271) (by decide +kernel)⟩
theorem lw_p20 : lw_okq (⟨"LayeredTree", "cellOfObject", "(I)I"⟩, 8) := ⟨⟨by decide +kernel, by decide +kernel⟩, List.mem_of_getElem? (i := 8) (by decide +kernel), List.mem_of_getElem? (i := 274) (by decide +kernel), List.mem_of_getElem? (i := 275) (by decide +kernel)⟩
theorem lw_p21 : lw_okq (⟨"LayeredTree", "depthOfNoted", "()I"⟩, 8) := ⟨⟨by decide +kernel, by decide +kernel⟩, List.mem_of_getElem? (i := 8) (by decide +kernel), List.mem_of_getElem? (i := 281) (by decide +kernel), List.mem_of_getElem? (i := 282) (by decide +kernel)⟩
theorem lw_p22 : lw_okq (⟨"LayeredTree", "makeNotedAt", "(I)V"⟩, 8) := ⟨⟨by decide +kernel, by decide +kernel⟩, List.mem_of_getElem? (i := 8) (by decide +kernel), List.mem_of_getElem? (i := 285) (by decide +kernel), List.mem_of_getElem? (i := 286) (by decide +kernel)⟩
theorem lw_p23 : lw_okq (⟨"LayeredTreeModel", "isLayer", "(I)Z"⟩, 15) := ⟨⟨by decide +kernel, by decide +kernel⟩, List.mem_of_getElem? (i := 316) (by decide +kernel), List.mem_of_getElem? (i := 372) (by decide +kernel), List.mem_of_getElem? (i := 373) (by decide +kernel)⟩
theorem lw_p24 : lw_okq (⟨"LayeredTreeModel", "room", "(I)Z"⟩, 15) := ⟨⟨by decide +kernel, by decide +kernel⟩, List.mem_of_getElem? (i := 316) (by decide +kernel), List.mem_of_getElem? (i := 383) (by decide +kernel), List.mem_of_getElem? (i := 384) (by decide +kernel)⟩
theorem lw_p25 : lw_okq (⟨"LayeredTreeModel", "upper", "(I)I"⟩, 15) := ⟨⟨by decide +kernel, by decide +kernel⟩, List.mem_of_getElem? (i := 316) (by decide +kernel), List.mem_of_getElem? (i := 405) (by decide +kernel), List.mem_of_getElem? (i := 406) (by decide +kernel)⟩
theorem lw_p26 : lw_okq (⟨"LayeredTreeModel", "look", "(I)V"⟩, 15) := ⟨⟨by decide +kernel, by decide +kernel⟩, List.mem_of_getElem? (i := 316) (by decide +kernel), List.mem_of_getElem? (i := 417) (by decide +kernel), List.mem_of_getElem? (i := 418) (by decide +kernel)⟩
theorem lw_p27 : lw_okq (⟨"LayeredTreeModel", "resolve", "(III)V"⟩, 15) := ⟨⟨by decide +kernel, by decide +kernel⟩, List.mem_of_getElem? (i := 316) (by decide +kernel), List.mem_of_getElem? (i := 427) (by decide +kernel), List.mem_of_getElem? (i := 428) (by decide +kernel)⟩
theorem lw_p28 : lw_okq (⟨"LayeredTreeModel", "children", "(I)I"⟩, 15) := ⟨⟨by decide +kernel, by decide +kernel⟩, List.mem_of_getElem? (i := 316) (by decide +kernel), List.mem_of_getElem? (i := 440) (by decide +kernel), List.mem_of_getElem? (i := 441) (by decide +kernel)⟩
theorem lw_p29 : lw_okq (⟨"LayeredTreeModel", "target", "(I)I"⟩, 15) := ⟨⟨by decide +kernel, by decide +kernel⟩, List.mem_of_getElem? (i := 316) (by decide +kernel), List.mem_of_getElem? (i := 464) (by decide +kernel), List.mem_of_getElem? (i := 465) (by decide +kernel)⟩
theorem lw_p30 : lw_okq (⟨"LayeredTreeModel", "isDirectory", "(I)Z"⟩, 15) := ⟨⟨by decide +kernel, by decide +kernel⟩, List.mem_of_getElem? (i := 316) (by decide +kernel), List.mem_of_getElem? (i := 468) (by decide +kernel), List.mem_of_getElem? (i := 469) (by decide +kernel)⟩
theorem lw_p31 : lw_okq (⟨"LayeredTreeModel", "keep", "()V"⟩, 15) := ⟨⟨by decide +kernel, by decide +kernel⟩, List.mem_of_getElem? (i := 316) (by decide +kernel), List.mem_of_getElem? (i := 472) (by decide +kernel), List.mem_of_getElem? (i := 473) (by decide +kernel)⟩
def lw_privs_2 : List (MethodName × Nat) := [(⟨"LayeredTree", "isFilledDirectory", "(II)Z"⟩, 8), (⟨"LayeredTree", "unmakeAt", "(I)V"⟩, 8), (⟨"LayeredTree", "refusalOfTarget", "(II)I"⟩, 8), (⟨"LayeredTree", "noteFrom", "(I)V"⟩, 8), (⟨"LayeredTree", "cellOfObject", "(I)I"⟩, 8), (⟨"LayeredTree", "depthOfNoted", "()I"⟩, 8), (⟨"LayeredTree", "makeNotedAt", "(I)V"⟩, 8), (⟨"LayeredTreeModel", "isLayer", "(I)Z"⟩, 15), (⟨"LayeredTreeModel", "room", "(I)Z"⟩, 15), (⟨"LayeredTreeModel", "upper", "(I)I"⟩, 15), (⟨"LayeredTreeModel", "look", "(I)V"⟩, 15), (⟨"LayeredTreeModel", "resolve", "(III)V"⟩, 15), (⟨"LayeredTreeModel", "children", "(I)I"⟩, 15), (⟨"LayeredTreeModel", "target", "(I)I"⟩, 15), (⟨"LayeredTreeModel", "isDirectory", "(I)Z"⟩, 15), (⟨"LayeredTreeModel", "keep", "()V"⟩, 15)]
theorem lw_r2 : ∀ q ∈ lw_privs_2, lw_okq q := List.forall_mem_cons.mpr ⟨lw_p16, List.forall_mem_cons.mpr ⟨lw_p17, List.forall_mem_cons.mpr ⟨lw_p18, List.forall_mem_cons.mpr ⟨lw_p19, List.forall_mem_cons.mpr ⟨lw_p20, List.forall_mem_cons.mpr ⟨lw_p21, List.forall_mem_cons.mpr ⟨lw_p22, List.forall_mem_cons.mpr ⟨lw_p23, List.forall_mem_cons.mpr ⟨lw_p24, List.forall_mem_cons.mpr ⟨lw_p25, List.forall_mem_cons.mpr ⟨lw_p26, List.forall_mem_cons.mpr ⟨lw_p27, List.forall_mem_cons.mpr ⟨lw_p28, List.forall_mem_cons.mpr ⟨lw_p29, List.forall_mem_cons.mpr ⟨lw_p30, List.forall_mem_cons.mpr ⟨lw_p31, fun _ h => absurd h List.not_mem_nil⟩⟩⟩⟩⟩⟩⟩⟩⟩⟩⟩⟩⟩⟩⟩⟩
theorem lw_p32 : lw_okq (⟨"LayeredTreeModel", "make", "(III)V"⟩, 15) := ⟨⟨by decide +kernel, by decide +kernel⟩, List.mem_of_getElem? (i := 316) (by decide +kernel), List.mem_of_getElem? (i := 476) (by decide +kernel), List.mem_of_getElem? (i := 477) (by decide +kernel)⟩
theorem lw_p33 : lw_okq (⟨"LayeredTreeModel", "raise", "(I)V"⟩, 15) := ⟨⟨by decide +kernel, by decide +kernel⟩, List.mem_of_getElem? (i := 316) (by decide +kernel), List.mem_of_getElem? (i := 480) (by decide +kernel), List.mem_of_getElem? (i := 481) (by decide +kernel)⟩
theorem lw_p34 : lw_okq (⟨"LayeredTreeModel", "set", "(III)V"⟩, 15) := ⟨⟨by decide +kernel, by decide +kernel⟩, List.mem_of_getElem? (i := 316) (by decide +kernel), List.mem_of_getElem? (i := 484) (by decide +kernel), List.mem_of_getElem? (i := 485) (by decide +kernel)⟩
theorem lw_p35 : lw_okq (⟨"LayeredTreeModel", "isCovered", "(I)Z"⟩, 15) := ⟨⟨by decide +kernel, by decide +kernel⟩, List.mem_of_getElem? (i := 316) (by decide +kernel), List.mem_of_getElem? (i := 488) (by decide +kernel), List.mem_of_getElem? (i := 489) (by decide +kernel)⟩
theorem lw_p36 : lw_okq (⟨"LayeredTreeModel", "strip", "(I)V"⟩, 15) := ⟨⟨by decide +kernel, by decide +kernel⟩, List.mem_of_getElem? (i := 316) (by decide +kernel), List.mem_of_getElem? (i := 492) (by decide +kernel), List.mem_of_getElem? (i := 493) (by decide +kernel)⟩
theorem lw_p37 : lw_okq (⟨"LayeredTreeModel", "end", "(I)I"⟩, 15) := ⟨⟨by decide +kernel, by decide +kernel⟩, List.mem_of_getElem? (i := 316) (by decide +kernel), List.mem_of_getElem? (i := 499) (by decide +kernel), List.mem_of_getElem? (i := 500) (by decide +kernel)⟩
theorem lw_p38 : lw_okq (⟨"LayeredTreeModel", "unmake", "(I)V"⟩, 15) := ⟨⟨by decide +kernel, by decide +kernel⟩, List.mem_of_getElem? (i := 316) (by decide +kernel), List.mem_of_getElem? (i := 511) (by decide +kernel), List.mem_of_getElem? (i := 512) (by decide +kernel)⟩
theorem lw_p39 : lw_okq (⟨"LayeredTreeModel", "note", "(I)I"⟩, 15) := ⟨⟨by decide +kernel, by decide +kernel⟩, List.mem_of_getElem? (i := 316) (by decide +kernel), List.mem_of_getElem? (i := 519) (by decide +kernel), List.mem_of_getElem? (i := 520) (by decide +kernel)⟩
def lw_privs_3 : List (MethodName × Nat) := [(⟨"LayeredTreeModel", "make", "(III)V"⟩, 15), (⟨"LayeredTreeModel", "raise", "(I)V"⟩, 15), (⟨"LayeredTreeModel", "set", "(III)V"⟩, 15), (⟨"LayeredTreeModel", "isCovered", "(I)Z"⟩, 15), (⟨"LayeredTreeModel", "strip", "(I)V"⟩, 15), (⟨"LayeredTreeModel", "end", "(I)I"⟩, 15), (⟨"LayeredTreeModel", "unmake", "(I)V"⟩, 15), (⟨"LayeredTreeModel", "note", "(I)I"⟩, 15)]
theorem lw_r3 : ∀ q ∈ lw_privs_3, lw_okq q := List.forall_mem_cons.mpr ⟨lw_p32, List.forall_mem_cons.mpr ⟨lw_p33, List.forall_mem_cons.mpr ⟨lw_p34, List.forall_mem_cons.mpr ⟨lw_p35, List.forall_mem_cons.mpr ⟨lw_p36, List.forall_mem_cons.mpr ⟨lw_p37, List.forall_mem_cons.mpr ⟨lw_p38, List.forall_mem_cons.mpr ⟨lw_p39, fun _ h => absurd h List.not_mem_nil⟩⟩⟩⟩⟩⟩⟩⟩
def lw_privs : List (MethodName × Nat) := lw_privs_1 ++ (lw_privs_2 ++ (lw_privs_3))
def lw_tbl : List Cond := k2_sels lw_privs ++ tables_1
theorem lw_privs_ok : ∀ q ∈ lw_privs, lw_okq q := by
  show ∀ q ∈ lw_privs_1 ++ (lw_privs_2 ++ (lw_privs_3)), lw_okq q
  exact List.forall_mem_append.mpr ⟨lw_r1, List.forall_mem_append.mpr ⟨lw_r2, lw_r3⟩⟩
end
section
/-! names: classes, fields, methods, one list of words for all methods, decode rows: by my own program (wip/gen) out of the Statement and the listing -/
def RX0 : String := "LayeredTree$Layer"
def TX0 : u_T := fun k => match k with
  | 0 => ("LayeredTree$Layer", "cells", "[I", true)
  | 1 => ("LayeredTree$Layer", "filled", "I", false)
  | _ => ("LayeredTree$Layer", "whitedOut", "I", false)
def tyX0 : Nat → FieldType := fun k => match k with
  | 0 => .array .int
  | 1 => .int
  | _ => .int
theorem nmX0 : ∀ a, a < 3 → ∀ b, b < 3 → a ≠ b → (TX0 a).2.1 ≠ (TX0 b).2.1 := by decide +kernel
theorem tyX0_ok : ∀ k, k < 3 → parseFieldDescriptor (TX0 k).2.2.1 = some (tyX0 k) := by decide +kernel
abbrev cX0_init : ByteArray := prog_2_method_1_code
def yX0_init : MethodName := ⟨RX0, "<init>", "()V"⟩
abbrev cX0_fileCell : ByteArray := prog_2_method_2_code
def yX0_fileCell : MethodName := ⟨RX0, "fileCell", "(I)I"⟩
abbrev cX0_kindAt : ByteArray := prog_2_method_3_code
def yX0_kindAt : MethodName := ⟨RX0, "kindAt", "(I)I"⟩
abbrev cX0_valueAt : ByteArray := prog_2_method_4_code
def yX0_valueAt : MethodName := ⟨RX0, "valueAt", "(I)I"⟩
abbrev cX0_canHoldIn : ByteArray := prog_2_method_5_code
def yX0_canHoldIn : MethodName := ⟨RX0, "canHoldIn", "(I)Z"⟩
abbrev cX0_entryCount : ByteArray := prog_2_method_6_code
def yX0_entryCount : MethodName := ⟨RX0, "entryCount", "()I"⟩
abbrev cX0_whiteoutCount : ByteArray := prog_2_method_7_code
def yX0_whiteoutCount : MethodName := ⟨RX0, "whiteoutCount", "()I"⟩
abbrev cX0_set : ByteArray := prog_2_method_8_code
def yX0_set : MethodName := ⟨RX0, "set", "(II)V"⟩
abbrev cX0_clearFrom : ByteArray := prog_2_method_9_code
def yX0_clearFrom : MethodName := ⟨RX0, "clearFrom", "(I)V"⟩
abbrev cX0_copyFrom : ByteArray := prog_2_method_10_code
def yX0_copyFrom : MethodName := ⟨RX0, "copyFrom", "(LLayeredTree$Layer;)V"⟩
def RX1 : String := "LayeredTree$Places"
abbrev cX1_ofPath : ByteArray := prog_3_method_2_code
def yX1_ofPath : MethodName := ⟨RX1, "ofPath", "(I)I"⟩
abbrev cX1_depth : ByteArray := prog_3_method_3_code
def yX1_depth : MethodName := ⟨RX1, "depth", "(I)I"⟩
abbrev cX1_child : ByteArray := prog_3_method_4_code
def yX1_child : MethodName := ⟨RX1, "child", "(II)I"⟩
abbrev cX1_parent : ByteArray := prog_3_method_5_code
def yX1_parent : MethodName := ⟨RX1, "parent", "(I)I"⟩
abbrev cX1_above : ByteArray := prog_3_method_6_code
def yX1_above : MethodName := ⟨RX1, "above", "(II)I"⟩
abbrev cX1_below : ByteArray := prog_3_method_7_code
def yX1_below : MethodName := ⟨RX1, "below", "(II)I"⟩
abbrev cX1_isBelow : ByteArray := prog_3_method_8_code
def yX1_isBelow : MethodName := ⟨RX1, "isBelow", "(II)Z"⟩
def RX2 : String := "LayeredTree"
def TX2 : u_T := fun k => match k with
  | 0 => ("LayeredTree", "top", "I", true)
  | 1 => ("LayeredTree", "layers", "[LLayeredTree$Layer;", true)
  | 2 => ("LayeredTree", "upper", "LLayeredTree$Layer;", true)
  | 3 => ("LayeredTree", "mounted", "Z", false)
  | 4 => ("LayeredTree", "copyUps", "I", false)
  | 5 => ("LayeredTree", "keptUpper", "LLayeredTree$Layer;", true)
  | 6 => ("LayeredTree", "keptCopyUps", "I", false)
  | _ => ("LayeredTree", "noted", "[I", true)
def tyX2 : Nat → FieldType := fun k => match k with
  | 0 => .int
  | 1 => .array (.object "LayeredTree$Layer")
  | 2 => .object "LayeredTree$Layer"
  | 3 => .boolean
  | 4 => .int
  | 5 => .object "LayeredTree$Layer"
  | 6 => .int
  | _ => .array .int
theorem nmX2 : ∀ a, a < 8 → ∀ b, b < 8 → a ≠ b → (TX2 a).2.1 ≠ (TX2 b).2.1 := by decide +kernel
theorem tyX2_ok : ∀ k, k < 8 → parseFieldDescriptor (TX2 k).2.2.1 = some (tyX2 k) := by decide +kernel
abbrev cX2_init : ByteArray := prog_1_method_1_code
def yX2_init : MethodName := ⟨RX2, "<init>", "(I)V"⟩
abbrev cX2_put : ByteArray := prog_1_method_2_code
def yX2_put : MethodName := ⟨RX2, "put", "(IIII)Z"⟩
abbrev cX2_mount : ByteArray := prog_1_method_3_code
def yX2_mount : MethodName := ⟨RX2, "mount", "()Z"⟩
abbrev cX2_kind : ByteArray := prog_1_method_4_code
def yX2_kind : MethodName := ⟨RX2, "kind", "(I)I"⟩
abbrev cX2_read : ByteArray := prog_1_method_5_code
def yX2_read : MethodName := ⟨RX2, "read", "(I)I"⟩
abbrev cX2_size : ByteArray := prog_1_method_6_code
def yX2_size : MethodName := ⟨RX2, "size", "(I)I"⟩
abbrev cX2_name : ByteArray := prog_1_method_7_code
def yX2_name : MethodName := ⟨RX2, "name", "(II)I"⟩
abbrev cX2_objects : ByteArray := prog_1_method_8_code
def yX2_objects : MethodName := ⟨RX2, "objects", "()I"⟩
abbrev cX2_origin : ByteArray := prog_1_method_9_code
def yX2_origin : MethodName := ⟨RX2, "origin", "(I)I"⟩
abbrev cX2_makeDir : ByteArray := prog_1_method_10_code
def yX2_makeDir : MethodName := ⟨RX2, "makeDir", "(I)I"⟩
abbrev cX2_write : ByteArray := prog_1_method_11_code
def yX2_write : MethodName := ⟨RX2, "write", "(II)I"⟩
abbrev cX2_remove : ByteArray := prog_1_method_12_code
def yX2_remove : MethodName := ⟨RX2, "remove", "(I)I"⟩
abbrev cX2_rename : ByteArray := prog_1_method_13_code
def yX2_rename : MethodName := ⟨RX2, "rename", "(II)I"⟩
abbrev cX2_entry : ByteArray := prog_1_method_14_code
def yX2_entry : MethodName := ⟨RX2, "entry", "(II)I"⟩
abbrev cX2_entryValue : ByteArray := prog_1_method_15_code
def yX2_entryValue : MethodName := ⟨RX2, "entryValue", "(II)I"⟩
abbrev cX2_entries : ByteArray := prog_1_method_16_code
def yX2_entries : MethodName := ⟨RX2, "entries", "(I)I"⟩
abbrev cX2_whiteouts : ByteArray := prog_1_method_17_code
def yX2_whiteouts : MethodName := ⟨RX2, "whiteouts", "()I"⟩
abbrev cX2_copies : ByteArray := prog_1_method_18_code
def yX2_copies : MethodName := ⟨RX2, "copies", "()I"⟩
abbrev cX2_placeOrRefusal : ByteArray := prog_1_method_19_code
def yX2_placeOrRefusal : MethodName := ⟨RX2, "placeOrRefusal", "(I)I"⟩
abbrev cX2_objectPlaceOrRefusal : ByteArray := prog_1_method_20_code
def yX2_objectPlaceOrRefusal : MethodName := ⟨RX2, "objectPlaceOrRefusal", "(I)I"⟩
abbrev cX2_directoryPlaceOrRefusal : ByteArray := prog_1_method_21_code
def yX2_directoryPlaceOrRefusal : MethodName := ⟨RX2, "directoryPlaceOrRefusal", "(I)I"⟩
abbrev cX2_isLayer : ByteArray := prog_1_method_22_code
def yX2_isLayer : MethodName := ⟨RX2, "isLayer", "(I)Z"⟩
abbrev cX2_hasRoomIn : ByteArray := prog_1_method_23_code
def yX2_hasRoomIn : MethodName := ⟨RX2, "hasRoomIn", "(I)Z"⟩
abbrev cX2_isDirectory : ByteArray := prog_1_method_24_code
def yX2_isDirectory : MethodName := ⟨RX2, "isDirectory", "(I)Z"⟩
abbrev cX2_isFile : ByteArray := prog_1_method_25_code
def yX2_isFile : MethodName := ⟨RX2, "isFile", "(I)Z"⟩
abbrev cX2_foundFile : ByteArray := prog_1_method_26_code
def yX2_foundFile : MethodName := ⟨RX2, "foundFile", "(I)I"⟩
abbrev cX2_layerOfFile : ByteArray := prog_1_method_27_code
def yX2_layerOfFile : MethodName := ⟨RX2, "layerOfFile", "(I)I"⟩
abbrev cX2_originOf : ByteArray := prog_1_method_28_code
def yX2_originOf : MethodName := ⟨RX2, "originOf", "(I)I"⟩
abbrev cX2_isPart : ByteArray := prog_1_method_29_code
def yX2_isPart : MethodName := ⟨RX2, "isPart", "(II)Z"⟩
abbrev cX2_partOf : ByteArray := prog_1_method_30_code
def yX2_partOf : MethodName := ⟨RX2, "partOf", "(I)I"⟩
abbrev cX2_allParts : ByteArray := prog_1_method_31_code
def yX2_allParts : MethodName := ⟨RX2, "allParts", "()I"⟩
abbrev cX2_find : ByteArray := prog_1_method_32_code
def yX2_find : MethodName := ⟨RX2, "find", "(I)I"⟩
abbrev cX2_findAmong : ByteArray := prog_1_method_33_code
def yX2_findAmong : MethodName := ⟨RX2, "findAmong", "(II)I"⟩
abbrev cX2_isCovered : ByteArray := prog_1_method_34_code
def yX2_isCovered : MethodName := ⟨RX2, "isCovered", "(I)Z"⟩
abbrev cX2_countIn : ByteArray := prog_1_method_35_code
def yX2_countIn : MethodName := ⟨RX2, "countIn", "(II)I"⟩
abbrev cX2_countBelow : ByteArray := prog_1_method_36_code
def yX2_countBelow : MethodName := ⟨RX2, "countBelow", "(II)I"⟩
abbrev cX2_isFilledDirectory : ByteArray := prog_1_method_37_code
def yX2_isFilledDirectory : MethodName := ⟨RX2, "isFilledDirectory", "(II)Z"⟩
abbrev cX2_keepUpper : ByteArray := prog_1_method_38_code
def yX2_keepUpper : MethodName := ⟨RX2, "keepUpper", "()V"⟩
abbrev cX2_settle : ByteArray := prog_1_method_39_code
def yX2_settle : MethodName := ⟨RX2, "settle", "()I"⟩
abbrev cX2_raise : ByteArray := prog_1_method_40_code
def yX2_raise : MethodName := ⟨RX2, "raise", "(I)V"⟩
abbrev cX2_makeAt : ByteArray := prog_1_method_41_code
def yX2_makeAt : MethodName := ⟨RX2, "makeAt", "(II)V"⟩
abbrev cX2_unmakeAt : ByteArray := prog_1_method_42_code
def yX2_unmakeAt : MethodName := ⟨RX2, "unmakeAt", "(I)V"⟩
abbrev cX2_refusalOfTarget : ByteArray := prog_1_method_43_code
def yX2_refusalOfTarget : MethodName := ⟨RX2, "refusalOfTarget", "(II)I"⟩
abbrev cX2_noteFrom : ByteArray := prog_1_method_44_code
def yX2_noteFrom : MethodName := ⟨RX2, "noteFrom", "(I)V"⟩
abbrev cX2_cellOfObject : ByteArray := prog_1_method_45_code
def yX2_cellOfObject : MethodName := ⟨RX2, "cellOfObject", "(I)I"⟩
abbrev cX2_depthOfNoted : ByteArray := prog_1_method_46_code
def yX2_depthOfNoted : MethodName := ⟨RX2, "depthOfNoted", "()I"⟩
abbrev cX2_makeNotedAt : ByteArray := prog_1_method_47_code
def yX2_makeNotedAt : MethodName := ⟨RX2, "makeNotedAt", "(I)V"⟩
def RX3 : String := "LayeredTreeModel"
def TX3 : u_T := fun k => match k with
  | 0 => ("LayeredTreeModel", "top", "I", true)
  | 1 => ("LayeredTreeModel", "mounted", "Z", false)
  | 2 => ("LayeredTreeModel", "copyUps", "I", false)
  | 3 => ("LayeredTreeModel", "kinds", "[I", true)
  | 4 => ("LayeredTreeModel", "values", "[I", true)
  | 5 => ("LayeredTreeModel", "oldKinds", "[I", true)
  | 6 => ("LayeredTreeModel", "oldValues", "[I", true)
  | 7 => ("LayeredTreeModel", "found", "I", false)
  | 8 => ("LayeredTreeModel", "parts", "I", false)
  | 9 => ("LayeredTreeModel", "first", "I", false)
  | 10 => ("LayeredTreeModel", "value", "I", false)
  | 11 => ("LayeredTreeModel", "noted", "[I", true)
  | 12 => ("LayeredTreeModel", "notedKind", "[I", true)
  | 13 => ("LayeredTreeModel", "notedValue", "[I", true)
  | _ => ("LayeredTreeModel", "notes", "I", false)
def tyX3 : Nat → FieldType := fun k => match k with
  | 0 => .int
  | 1 => .boolean
  | 2 => .int
  | 3 => .array .int
  | 4 => .array .int
  | 5 => .array .int
  | 6 => .array .int
  | 7 => .int
  | 8 => .int
  | 9 => .int
  | 10 => .int
  | 11 => .array .int
  | 12 => .array .int
  | 13 => .array .int
  | _ => .int
theorem nmX3 : ∀ a, a < 15 → ∀ b, b < 15 → a ≠ b → (TX3 a).2.1 ≠ (TX3 b).2.1 := by decide +kernel
theorem tyX3_ok : ∀ k, k < 15 → parseFieldDescriptor (TX3 k).2.2.1 = some (tyX3 k) := by decide +kernel
abbrev cX3_init : ByteArray := prog_5_method_1_code
def yX3_init : MethodName := ⟨RX3, "<init>", "(I)V"⟩
abbrev cX3_placeOf : ByteArray := prog_5_method_2_code
def yX3_placeOf : MethodName := ⟨RX3, "placeOf", "(I)I"⟩
abbrev cX3_depth : ByteArray := prog_5_method_3_code
def yX3_depth : MethodName := ⟨RX3, "depth", "(I)I"⟩
abbrev cX3_without : ByteArray := prog_5_method_4_code
def yX3_without : MethodName := ⟨RX3, "without", "(II)I"⟩
abbrev cX3_isPath : ByteArray := prog_5_method_5_code
def yX3_isPath : MethodName := ⟨RX3, "isPath", "(I)Z"⟩
abbrev cX3_isBelow : ByteArray := prog_5_method_6_code
def yX3_isBelow : MethodName := ⟨RX3, "isBelow", "(II)Z"⟩
abbrev cX3_resolve : ByteArray := prog_5_method_7_code
def yX3_resolve : MethodName := ⟨RX3, "resolve", "(III)V"⟩
abbrev cX3_look : ByteArray := prog_5_method_8_code
def yX3_look : MethodName := ⟨RX3, "look", "(I)V"⟩
abbrev cX3_isCovered : ByteArray := prog_5_method_9_code
def yX3_isCovered : MethodName := ⟨RX3, "isCovered", "(I)Z"⟩
abbrev cX3_children : ByteArray := prog_5_method_10_code
def yX3_children : MethodName := ⟨RX3, "children", "(I)I"⟩
abbrev cX3_upper : ByteArray := prog_5_method_11_code
def yX3_upper : MethodName := ⟨RX3, "upper", "(I)I"⟩
abbrev cX3_set : ByteArray := prog_5_method_12_code
def yX3_set : MethodName := ⟨RX3, "set", "(III)V"⟩
abbrev cX3_raise : ByteArray := prog_5_method_13_code
def yX3_raise : MethodName := ⟨RX3, "raise", "(I)V"⟩
abbrev cX3_strip : ByteArray := prog_5_method_14_code
def yX3_strip : MethodName := ⟨RX3, "strip", "(I)V"⟩
abbrev cX3_make : ByteArray := prog_5_method_15_code
def yX3_make : MethodName := ⟨RX3, "make", "(III)V"⟩
abbrev cX3_unmake : ByteArray := prog_5_method_16_code
def yX3_unmake : MethodName := ⟨RX3, "unmake", "(I)V"⟩
abbrev cX3_keep : ByteArray := prog_5_method_17_code
def yX3_keep : MethodName := ⟨RX3, "keep", "()V"⟩
abbrev cX3_end : ByteArray := prog_5_method_18_code
def yX3_end : MethodName := ⟨RX3, "end", "(I)I"⟩
abbrev cX3_isLayer : ByteArray := prog_5_method_19_code
def yX3_isLayer : MethodName := ⟨RX3, "isLayer", "(I)Z"⟩
abbrev cX3_entries : ByteArray := prog_5_method_20_code
def yX3_entries : MethodName := ⟨RX3, "entries", "(I)I"⟩
abbrev cX3_room : ByteArray := prog_5_method_21_code
def yX3_room : MethodName := ⟨RX3, "room", "(I)Z"⟩
abbrev cX3_put : ByteArray := prog_5_method_22_code
def yX3_put : MethodName := ⟨RX3, "put", "(IIII)Z"⟩
abbrev cX3_mount : ByteArray := prog_5_method_23_code
def yX3_mount : MethodName := ⟨RX3, "mount", "()Z"⟩
abbrev cX3_entry : ByteArray := prog_5_method_24_code
def yX3_entry : MethodName := ⟨RX3, "entry", "(II)I"⟩
abbrev cX3_entryValue : ByteArray := prog_5_method_25_code
def yX3_entryValue : MethodName := ⟨RX3, "entryValue", "(II)I"⟩
abbrev cX3_whiteouts : ByteArray := prog_5_method_26_code
def yX3_whiteouts : MethodName := ⟨RX3, "whiteouts", "()I"⟩
abbrev cX3_copies : ByteArray := prog_5_method_27_code
def yX3_copies : MethodName := ⟨RX3, "copies", "()I"⟩
abbrev cX3_kind : ByteArray := prog_5_method_28_code
def yX3_kind : MethodName := ⟨RX3, "kind", "(I)I"⟩
abbrev cX3_read : ByteArray := prog_5_method_29_code
def yX3_read : MethodName := ⟨RX3, "read", "(I)I"⟩
abbrev cX3_size : ByteArray := prog_5_method_30_code
def yX3_size : MethodName := ⟨RX3, "size", "(I)I"⟩
abbrev cX3_name : ByteArray := prog_5_method_31_code
def yX3_name : MethodName := ⟨RX3, "name", "(II)I"⟩
abbrev cX3_objects : ByteArray := prog_5_method_32_code
def yX3_objects : MethodName := ⟨RX3, "objects", "()I"⟩
abbrev cX3_origin : ByteArray := prog_5_method_33_code
def yX3_origin : MethodName := ⟨RX3, "origin", "(I)I"⟩
abbrev cX3_target : ByteArray := prog_5_method_34_code
def yX3_target : MethodName := ⟨RX3, "target", "(I)I"⟩
abbrev cX3_isDirectory : ByteArray := prog_5_method_35_code
def yX3_isDirectory : MethodName := ⟨RX3, "isDirectory", "(I)Z"⟩
abbrev cX3_makeDir : ByteArray := prog_5_method_36_code
def yX3_makeDir : MethodName := ⟨RX3, "makeDir", "(I)I"⟩
abbrev cX3_write : ByteArray := prog_5_method_37_code
def yX3_write : MethodName := ⟨RX3, "write", "(II)I"⟩
abbrev cX3_remove : ByteArray := prog_5_method_38_code
def yX3_remove : MethodName := ⟨RX3, "remove", "(I)I"⟩
abbrev cX3_note : ByteArray := prog_5_method_39_code
def yX3_note : MethodName := ⟨RX3, "note", "(I)I"⟩
abbrev cX3_rename : ByteArray := prog_5_method_40_code
def yX3_rename : MethodName := ⟨RX3, "rename", "(II)I"⟩
abbrev vwCl : List vw_C := [(RX0, TX0, 3), (RX2, TX2, 8), (RX3, TX3, 15)]
def tb_g : List Cond := lw_tbl.filter goodWord
theorem tb_in {w : Cond} (i : Nat) (h : lw_tbl[i]? = some w) (hg : goodWord w = true) : w ∈ tb_g := List.mem_filter.mpr ⟨List.mem_of_getElem? h, hg⟩
theorem tw_in {w c : Cond} (h : w ∈ tb_g) : w ∈ c :: tb_g := List.mem_cons_of_mem _ h
theorem gs_A {c w : Cond} (h : w ∈ tb_g) : GoodIn (c :: tb_g) (w :: tb_g) := fun x hx => by
  have hm : x ∈ tb_g := by
    rcases List.mem_cons.mp hx with e | e
    · rw [e]; exact h
    · exact e
  exact ⟨tw_in hm, good_of_word (List.mem_filter.mp hm).2⟩
theorem gs_1 {c w : Cond} (h : w ∈ tb_g) : ∀ x ∈ [w], x ∈ c :: tb_g ∧ ((x.onTables && x.keeps) = true ∨ ∃ ty, x = .arrayClass ty) := fun x hx => by
  rw [List.mem_singleton.mp hx]
  exact ⟨tw_in h, good_of_word (List.mem_filter.mp h).2⟩
theorem gs_S {c w : Cond} {own : String} {idx : Nat} {y : MethodName} (h1 : Cond.methodLink own idx y ∈ tb_g) (h2 : Cond.static y ∈ tb_g) (h3 : Cond.initialized y.cls ∈ tb_g) (h : w ∈ tb_g) : GoodIn (c :: tb_g) (va_wsS own idx y (w :: tb_g)) := fun x hx => by
  rcases List.mem_append.mp (show x ∈ [Cond.methodLink own idx y] ++ ([Cond.static y] ++ ([Cond.initialized y.cls] ++ (w :: tb_g))) from hx) with e | e
  · exact gs_1 h1 x e
  · rcases List.mem_append.mp e with e | e
    · exact gs_1 h2 x e
    · rcases List.mem_append.mp e with e | e
      · exact gs_1 h3 x e
      · exact gs_A h x e
theorem gs_V {c w : Cond} {own C : String} {idx : Nat} {y : MethodName} (h1 : Cond.methodLink own idx y ∈ tb_g) (h2 : Cond.instanceMethod y ∈ tb_g) (h3 : Cond.selects C y y ∈ tb_g) (h4 : Cond.initialized C ∈ tb_g) (h : w ∈ tb_g) : GoodIn (c :: tb_g) (wsV own idx C y (w :: tb_g)) := fun x hx => by
  rcases List.mem_append.mp (show x ∈ [Cond.methodLink own idx y] ++ ([Cond.instanceMethod y] ++ ([Cond.selects C y y] ++ ([Cond.initialized C] ++ (w :: tb_g)))) from hx) with e | e
  · exact gs_1 h1 x e
  · rcases List.mem_append.mp e with e | e
    · exact gs_1 h2 x e
    · rcases List.mem_append.mp e with e | e
      · exact gs_1 h3 x e
      · rcases List.mem_append.mp e with e | e
        · exact gs_1 h4 x e
        · exact gs_A h x e
theorem lk_0 : Cond.methodLink RX1 9 yX1_child ∈ tb_g := tb_in 111 (by decide +kernel) (by decide +kernel)
theorem lk_1 : Cond.initialized RX1 ∈ tb_g := tb_in 45 (by decide +kernel) (by decide +kernel)
set_option maxRecDepth 100000 in
theorem lk_2 : Cond.code yX1_child cX1_child 2 (some .int) ∈ tb_g := tb_in 113 rfl (by decide +kernel)
theorem lk_3 : Cond.static yX1_child ∈ tb_g := tb_in 112 (by decide +kernel) (by decide +kernel)
theorem lk_4 : Cond.fieldLink RX2 18 "LayeredTree" "top" "I" ∈ tb_g := tb_in 79 (by decide +kernel) (by decide +kernel)
theorem lk_5 : Cond.fieldLink RX0 11 "LayeredTree$Layer" "cells" "[I" ∈ tb_g := tb_in 68 (by decide +kernel) (by decide +kernel)
theorem lk_6 : Cond.fieldLink RX1 13 "LayeredTree$Places" "FIRST_OF_DEPTH" "[I" ∈ tb_g := tb_in 128 (by decide +kernel) (by decide +kernel)
theorem lk_7 : Cond.fieldLink RX1 20 "LayeredTree$Places" "NUMBER_OF_DEPTH" "[I" ∈ tb_g := tb_in 130 (by decide +kernel) (by decide +kernel)
theorem lk_8 : Cond.methodLink RX1 17 yX1_above ∈ tb_g := tb_in 125 (by decide +kernel) (by decide +kernel)
set_option maxRecDepth 100000 in
theorem lk_9 : Cond.code yX1_above cX1_above 2 (some .int) ∈ tb_g := tb_in 127 rfl (by decide +kernel)
theorem lk_10 : Cond.static yX1_above ∈ tb_g := tb_in 126 (by decide +kernel) (by decide +kernel)
theorem lk_11 : Cond.methodLink RX0 17 yX0_kindAt ∈ tb_g := tb_in 136 (by decide +kernel) (by decide +kernel)
theorem lk_12 : Cond.initialized RX0 ∈ tb_g := tb_in 43 (by decide +kernel) (by decide +kernel)
set_option maxRecDepth 100000 in
theorem lk_13 : Cond.code yX0_kindAt cX0_kindAt 2 (some .int) ∈ tb_g := tb_in 121 rfl (by decide +kernel)
theorem lk_14 : Cond.instanceMethod yX0_kindAt ∈ tb_g := tb_in 119 (by decide +kernel) (by decide +kernel)
theorem lk_15 : Cond.selects RX0 yX0_kindAt yX0_kindAt ∈ tb_g := tb_in 120 (by decide +kernel) (by decide +kernel)
theorem lk_16 : Cond.fieldLink RX0 21 "LayeredTree$Layer" "filled" "I" ∈ tb_g := tb_in 69 (by decide +kernel) (by decide +kernel)
theorem lk_17 : Cond.fieldLink RX2 24 "LayeredTree" "layers" "[LLayeredTree$Layer;" ∈ tb_g := tb_in 80 (by decide +kernel) (by decide +kernel)
theorem lk_18 : Cond.methodLink RX2 148 yX0_entryCount ∈ tb_g := tb_in 141 (by decide +kernel) (by decide +kernel)
set_option maxRecDepth 100000 in
theorem lk_19 : Cond.code yX0_entryCount cX0_entryCount 1 (some .int) ∈ tb_g := tb_in 144 rfl (by decide +kernel)
theorem lk_20 : Cond.instanceMethod yX0_entryCount ∈ tb_g := tb_in 142 (by decide +kernel) (by decide +kernel)
theorem lk_21 : Cond.selects RX0 yX0_entryCount yX0_entryCount ∈ tb_g := tb_in 143 (by decide +kernel) (by decide +kernel)
theorem lk_22 : Cond.fieldLink RX2 29 "LayeredTree" "upper" "LLayeredTree$Layer;" ∈ tb_g := tb_in 81 (by decide +kernel) (by decide +kernel)
theorem lk_23 : Cond.fieldLink RX0 25 "LayeredTree$Layer" "whitedOut" "I" ∈ tb_g := tb_in 70 (by decide +kernel) (by decide +kernel)
theorem lk_24 : Cond.methodLink RX2 69 yX0_set ∈ tb_g := tb_in 148 (by decide +kernel) (by decide +kernel)
set_option maxRecDepth 100000 in
theorem lk_25 : Cond.code yX0_set cX0_set 3 none ∈ tb_g := tb_in 151 rfl (by decide +kernel)
theorem lk_26 : Cond.instanceMethod yX0_set ∈ tb_g := tb_in 149 (by decide +kernel) (by decide +kernel)
theorem lk_27 : Cond.selects RX0 yX0_set yX0_set ∈ tb_g := tb_in 150 (by decide +kernel) (by decide +kernel)
theorem lk_28 : Cond.methodLink RX2 54 yX0_kindAt ∈ tb_g := tb_in 118 (by decide +kernel) (by decide +kernel)
theorem lk_29 : Cond.methodLink RX2 57 yX1_parent ∈ tb_g := tb_in 122 (by decide +kernel) (by decide +kernel)
set_option maxRecDepth 100000 in
theorem lk_30 : Cond.code yX1_parent cX1_parent 1 (some .int) ∈ tb_g := tb_in 124 rfl (by decide +kernel)
theorem lk_31 : Cond.static yX1_parent ∈ tb_g := tb_in 123 (by decide +kernel) (by decide +kernel)
theorem lk_32 : Cond.methodLink RX2 60 yX0_canHoldIn ∈ tb_g := tb_in 132 (by decide +kernel) (by decide +kernel)
set_option maxRecDepth 100000 in
theorem lk_33 : Cond.code yX0_canHoldIn cX0_canHoldIn 2 (some .boolean) ∈ tb_g := tb_in 135 rfl (by decide +kernel)
theorem lk_34 : Cond.instanceMethod yX0_canHoldIn ∈ tb_g := tb_in 133 (by decide +kernel) (by decide +kernel)
theorem lk_35 : Cond.selects RX0 yX0_canHoldIn yX0_canHoldIn ∈ tb_g := tb_in 134 (by decide +kernel) (by decide +kernel)
theorem lk_36 : Cond.methodLink RX2 63 yX2_hasRoomIn ∈ tb_g := tb_in 137 (by decide +kernel) (by decide +kernel)
theorem lk_37 : Cond.initialized RX2 ∈ tb_g := tb_in 41 (by decide +kernel) (by decide +kernel)
set_option maxRecDepth 100000 in
theorem lk_38 : Cond.code yX2_hasRoomIn cX2_hasRoomIn 4 (some .boolean) ∈ tb_g := tb_in 140 rfl (by decide +kernel)
theorem lk_39 : Cond.instanceMethod yX2_hasRoomIn ∈ tb_g := tb_in 139 (by decide +kernel) (by decide +kernel)
theorem lk_40 : Cond.selects RX2 yX2_hasRoomIn yX2_hasRoomIn ∈ tb_g := tb_in 1 (by decide +kernel) (by decide +kernel)
theorem lk_41 : Cond.methodLink RX2 66 yX0_fileCell ∈ tb_g := tb_in 145 (by decide +kernel) (by decide +kernel)
set_option maxRecDepth 100000 in
theorem lk_42 : Cond.code yX0_fileCell cX0_fileCell 1 (some .int) ∈ tb_g := tb_in 147 rfl (by decide +kernel)
theorem lk_43 : Cond.static yX0_fileCell ∈ tb_g := tb_in 146 (by decide +kernel) (by decide +kernel)
theorem lk_44 : Cond.methodLink RX2 42 yX1_ofPath ∈ tb_g := tb_in 108 (by decide +kernel) (by decide +kernel)
set_option maxRecDepth 100000 in
theorem lk_45 : Cond.code yX1_ofPath cX1_ofPath 4 (some .int) ∈ tb_g := tb_in 110 rfl (by decide +kernel)
theorem lk_46 : Cond.static yX1_ofPath ∈ tb_g := tb_in 109 (by decide +kernel) (by decide +kernel)
theorem lk_47 : Cond.fieldLink RX2 46 "LayeredTree" "mounted" "Z" ∈ tb_g := tb_in 82 (by decide +kernel) (by decide +kernel)
theorem lk_48 : Cond.methodLink RX2 50 yX2_isLayer ∈ tb_g := tb_in 114 (by decide +kernel) (by decide +kernel)
set_option maxRecDepth 100000 in
theorem lk_49 : Cond.code yX2_isLayer cX2_isLayer 2 (some .boolean) ∈ tb_g := tb_in 117 rfl (by decide +kernel)
theorem lk_50 : Cond.instanceMethod yX2_isLayer ∈ tb_g := tb_in 116 (by decide +kernel) (by decide +kernel)
theorem lk_51 : Cond.selects RX2 yX2_isLayer yX2_isLayer ∈ tb_g := tb_in 0 (by decide +kernel) (by decide +kernel)
theorem lk_52 : Cond.methodLink RX2 157 yX2_partOf ∈ tb_g := tb_in 172 (by decide +kernel) (by decide +kernel)
set_option maxRecDepth 100000 in
theorem lk_53 : Cond.code yX2_partOf cX2_partOf 1 (some .int) ∈ tb_g := tb_in 174 rfl (by decide +kernel)
theorem lk_54 : Cond.static yX2_partOf ∈ tb_g := tb_in 173 (by decide +kernel) (by decide +kernel)
theorem lk_55 : Cond.methodLink RX2 154 yX2_isPart ∈ tb_g := tb_in 186 (by decide +kernel) (by decide +kernel)
set_option maxRecDepth 100000 in
theorem lk_56 : Cond.code yX2_isPart cX2_isPart 2 (some .boolean) ∈ tb_g := tb_in 188 rfl (by decide +kernel)
theorem lk_57 : Cond.static yX2_isPart ∈ tb_g := tb_in 187 (by decide +kernel) (by decide +kernel)
theorem lk_58 : Cond.methodLink RX2 166 yX2_foundFile ∈ tb_g := tb_in 189 (by decide +kernel) (by decide +kernel)
set_option maxRecDepth 100000 in
theorem lk_59 : Cond.code yX2_foundFile cX2_foundFile 1 (some .int) ∈ tb_g := tb_in 191 rfl (by decide +kernel)
theorem lk_60 : Cond.static yX2_foundFile ∈ tb_g := tb_in 190 (by decide +kernel) (by decide +kernel)
theorem lk_61 : Cond.methodLink RX2 109 yX2_isDirectory ∈ tb_g := tb_in 178 (by decide +kernel) (by decide +kernel)
set_option maxRecDepth 100000 in
theorem lk_62 : Cond.code yX2_isDirectory cX2_isDirectory 1 (some .boolean) ∈ tb_g := tb_in 180 rfl (by decide +kernel)
theorem lk_63 : Cond.static yX2_isDirectory ∈ tb_g := tb_in 179 (by decide +kernel) (by decide +kernel)
theorem lk_64 : Cond.methodLink RX2 163 yX1_above ∈ tb_g := tb_in 181 (by decide +kernel) (by decide +kernel)
theorem lk_65 : Cond.methodLink RX2 97 yX2_findAmong ∈ tb_g := tb_in 182 (by decide +kernel) (by decide +kernel)
set_option maxRecDepth 100000 in
theorem lk_66 : Cond.code yX2_findAmong cX2_findAmong 6 (some .int) ∈ tb_g := tb_in 185 rfl (by decide +kernel)
theorem lk_67 : Cond.instanceMethod yX2_findAmong ∈ tb_g := tb_in 184 (by decide +kernel) (by decide +kernel)
theorem lk_68 : Cond.selects RX2 yX2_findAmong yX2_findAmong ∈ tb_g := tb_in 5 (by decide +kernel) (by decide +kernel)
theorem lk_69 : Cond.methodLink RX2 160 yX2_allParts ∈ tb_g := tb_in 168 (by decide +kernel) (by decide +kernel)
set_option maxRecDepth 100000 in
theorem lk_70 : Cond.code yX2_allParts cX2_allParts 1 (some .int) ∈ tb_g := tb_in 171 rfl (by decide +kernel)
theorem lk_71 : Cond.instanceMethod yX2_allParts ∈ tb_g := tb_in 170 (by decide +kernel) (by decide +kernel)
theorem lk_72 : Cond.selects RX2 yX2_allParts yX2_allParts ∈ tb_g := tb_in 4 (by decide +kernel) (by decide +kernel)
theorem lk_73 : Cond.methodLink RX2 139 yX1_depth ∈ tb_g := tb_in 175 (by decide +kernel) (by decide +kernel)
set_option maxRecDepth 100000 in
theorem lk_74 : Cond.code yX1_depth cX1_depth 2 (some .int) ∈ tb_g := tb_in 177 rfl (by decide +kernel)
theorem lk_75 : Cond.static yX1_depth ∈ tb_g := tb_in 176 (by decide +kernel) (by decide +kernel)
theorem lk_76 : Cond.methodLink RX2 73 yX2_placeOrRefusal ∈ tb_g := tb_in 160 (by decide +kernel) (by decide +kernel)
set_option maxRecDepth 100000 in
theorem lk_77 : Cond.code yX2_placeOrRefusal cX2_placeOrRefusal 3 (some .int) ∈ tb_g := tb_in 163 rfl (by decide +kernel)
theorem lk_78 : Cond.instanceMethod yX2_placeOrRefusal ∈ tb_g := tb_in 162 (by decide +kernel) (by decide +kernel)
theorem lk_79 : Cond.selects RX2 yX2_placeOrRefusal yX2_placeOrRefusal ∈ tb_g := tb_in 2 (by decide +kernel) (by decide +kernel)
theorem lk_80 : Cond.methodLink RX2 76 yX2_find ∈ tb_g := tb_in 164 (by decide +kernel) (by decide +kernel)
set_option maxRecDepth 100000 in
theorem lk_81 : Cond.code yX2_find cX2_find 4 (some .int) ∈ tb_g := tb_in 167 rfl (by decide +kernel)
theorem lk_82 : Cond.instanceMethod yX2_find ∈ tb_g := tb_in 166 (by decide +kernel) (by decide +kernel)
theorem lk_83 : Cond.selects RX2 yX2_find yX2_find ∈ tb_g := tb_in 3 (by decide +kernel) (by decide +kernel)
theorem lk_84 : Cond.methodLink RX2 79 yX2_isFile ∈ tb_g := tb_in 192 (by decide +kernel) (by decide +kernel)
set_option maxRecDepth 100000 in
theorem lk_85 : Cond.code yX2_isFile cX2_isFile 1 (some .boolean) ∈ tb_g := tb_in 194 rfl (by decide +kernel)
theorem lk_86 : Cond.static yX2_isFile ∈ tb_g := tb_in 193 (by decide +kernel) (by decide +kernel)
theorem lk_87 : Cond.methodLink RX2 82 yX2_layerOfFile ∈ tb_g := tb_in 199 (by decide +kernel) (by decide +kernel)
set_option maxRecDepth 100000 in
theorem lk_88 : Cond.code yX2_layerOfFile cX2_layerOfFile 1 (some .int) ∈ tb_g := tb_in 201 rfl (by decide +kernel)
theorem lk_89 : Cond.static yX2_layerOfFile ∈ tb_g := tb_in 200 (by decide +kernel) (by decide +kernel)
theorem lk_90 : Cond.methodLink RX2 85 yX0_valueAt ∈ tb_g := tb_in 202 (by decide +kernel) (by decide +kernel)
set_option maxRecDepth 100000 in
theorem lk_91 : Cond.code yX0_valueAt cX0_valueAt 2 (some .int) ∈ tb_g := tb_in 205 rfl (by decide +kernel)
theorem lk_92 : Cond.instanceMethod yX0_valueAt ∈ tb_g := tb_in 203 (by decide +kernel) (by decide +kernel)
theorem lk_93 : Cond.selects RX0 yX0_valueAt yX0_valueAt ∈ tb_g := tb_in 204 (by decide +kernel) (by decide +kernel)
theorem lk_94 : Cond.methodLink RX2 94 yX1_child ∈ tb_g := tb_in 218 (by decide +kernel) (by decide +kernel)
theorem lk_95 : Cond.methodLink RX2 88 yX2_directoryPlaceOrRefusal ∈ tb_g := tb_in 210 (by decide +kernel) (by decide +kernel)
set_option maxRecDepth 100000 in
theorem lk_96 : Cond.code yX2_directoryPlaceOrRefusal cX2_directoryPlaceOrRefusal 4 (some .int) ∈ tb_g := tb_in 213 rfl (by decide +kernel)
theorem lk_97 : Cond.instanceMethod yX2_directoryPlaceOrRefusal ∈ tb_g := tb_in 212 (by decide +kernel) (by decide +kernel)
theorem lk_98 : Cond.selects RX2 yX2_directoryPlaceOrRefusal yX2_directoryPlaceOrRefusal ∈ tb_g := tb_in 6 (by decide +kernel) (by decide +kernel)
theorem lk_99 : Cond.methodLink RX2 91 yX2_countIn ∈ tb_g := tb_in 214 (by decide +kernel) (by decide +kernel)
set_option maxRecDepth 100000 in
theorem lk_100 : Cond.code yX2_countIn cX2_countIn 5 (some .int) ∈ tb_g := tb_in 217 rfl (by decide +kernel)
theorem lk_101 : Cond.instanceMethod yX2_countIn ∈ tb_g := tb_in 216 (by decide +kernel) (by decide +kernel)
theorem lk_102 : Cond.selects RX2 yX2_countIn yX2_countIn ∈ tb_g := tb_in 7 (by decide +kernel) (by decide +kernel)
theorem lk_103 : Cond.methodLink RX2 100 yX2_countBelow ∈ tb_g := tb_in 227 (by decide +kernel) (by decide +kernel)
set_option maxRecDepth 100000 in
theorem lk_104 : Cond.code yX2_countBelow cX2_countBelow 7 (some .int) ∈ tb_g := tb_in 230 rfl (by decide +kernel)
theorem lk_105 : Cond.instanceMethod yX2_countBelow ∈ tb_g := tb_in 229 (by decide +kernel) (by decide +kernel)
theorem lk_106 : Cond.selects RX2 yX2_countBelow yX2_countBelow ∈ tb_g := tb_in 8 (by decide +kernel) (by decide +kernel)
theorem lk_107 : Cond.methodLink RX2 103 yX2_objectPlaceOrRefusal ∈ tb_g := tb_in 235 (by decide +kernel) (by decide +kernel)
set_option maxRecDepth 100000 in
theorem lk_108 : Cond.code yX2_objectPlaceOrRefusal cX2_objectPlaceOrRefusal 3 (some .int) ∈ tb_g := tb_in 238 rfl (by decide +kernel)
theorem lk_109 : Cond.instanceMethod yX2_objectPlaceOrRefusal ∈ tb_g := tb_in 237 (by decide +kernel) (by decide +kernel)
theorem lk_110 : Cond.selects RX2 yX2_objectPlaceOrRefusal yX2_objectPlaceOrRefusal ∈ tb_g := tb_in 9 (by decide +kernel) (by decide +kernel)
theorem lk_111 : Cond.methodLink RX2 106 yX2_originOf ∈ tb_g := tb_in 239 (by decide +kernel) (by decide +kernel)
set_option maxRecDepth 100000 in
theorem lk_112 : Cond.code yX2_originOf cX2_originOf 3 (some .int) ∈ tb_g := tb_in 242 rfl (by decide +kernel)
theorem lk_113 : Cond.instanceMethod yX2_originOf ∈ tb_g := tb_in 241 (by decide +kernel) (by decide +kernel)
theorem lk_114 : Cond.selects RX2 yX2_originOf yX2_originOf ∈ tb_g := tb_in 10 (by decide +kernel) (by decide +kernel)
theorem lk_115 : Cond.methodLink RX0 39 arraycopyName ∈ tb_g := tb_in 255 (by decide +kernel) (by decide +kernel)
theorem lk_116 : Cond.native arraycopyName ∈ tb_g := tb_in 257 (by decide +kernel) (by decide +kernel)
theorem lk_117 : Cond.static arraycopyName ∈ tb_g := tb_in 256 (by decide +kernel) (by decide +kernel)
theorem lk_118 : Cond.initialized "java/lang/System" ∈ tb_g := tb_in 46 (by decide +kernel) (by decide +kernel)
theorem lk_119 : Cond.fieldLink RX2 33 "LayeredTree" "keptUpper" "LLayeredTree$Layer;" ∈ tb_g := tb_in 84 (by decide +kernel) (by decide +kernel)
theorem lk_120 : Cond.methodLink RX2 169 yX0_copyFrom ∈ tb_g := tb_in 251 (by decide +kernel) (by decide +kernel)
set_option maxRecDepth 100000 in
theorem lk_121 : Cond.code yX0_copyFrom cX0_copyFrom 2 none ∈ tb_g := tb_in 254 rfl (by decide +kernel)
theorem lk_122 : Cond.instanceMethod yX0_copyFrom ∈ tb_g := tb_in 252 (by decide +kernel) (by decide +kernel)
theorem lk_123 : Cond.selects RX0 yX0_copyFrom yX0_copyFrom ∈ tb_g := tb_in 253 (by decide +kernel) (by decide +kernel)
theorem lk_124 : Cond.fieldLink RX2 122 "LayeredTree" "copyUps" "I" ∈ tb_g := tb_in 83 (by decide +kernel) (by decide +kernel)
theorem lk_125 : Cond.fieldLink RX2 173 "LayeredTree" "keptCopyUps" "I" ∈ tb_g := tb_in 85 (by decide +kernel) (by decide +kernel)
theorem lk_126 : Cond.methodLink RX0 35 yX1_child ∈ tb_g := tb_in 272 (by decide +kernel) (by decide +kernel)
theorem lk_127 : Cond.methodLink RX0 31 yX0_set ∈ tb_g := tb_in 271 (by decide +kernel) (by decide +kernel)
theorem lk_128 : Cond.methodLink RX0 28 yX1_depth ∈ tb_g := tb_in 270 (by decide +kernel) (by decide +kernel)
theorem lk_129 : Cond.methodLink RX2 176 yX2_raise ∈ tb_g := tb_in 262 (by decide +kernel) (by decide +kernel)
set_option maxRecDepth 100000 in
theorem lk_130 : Cond.code yX2_raise cX2_raise 4 none ∈ tb_g := tb_in 265 rfl (by decide +kernel)
theorem lk_131 : Cond.instanceMethod yX2_raise ∈ tb_g := tb_in 264 (by decide +kernel) (by decide +kernel)
theorem lk_132 : Cond.selects RX2 yX2_raise yX2_raise ∈ tb_g := tb_in 13 (by decide +kernel) (by decide +kernel)
theorem lk_133 : Cond.methodLink RX2 179 yX0_clearFrom ∈ tb_g := tb_in 266 (by decide +kernel) (by decide +kernel)
set_option maxRecDepth 100000 in
theorem lk_134 : Cond.code yX0_clearFrom cX0_clearFrom 6 none ∈ tb_g := tb_in 269 rfl (by decide +kernel)
theorem lk_135 : Cond.instanceMethod yX0_clearFrom ∈ tb_g := tb_in 267 (by decide +kernel) (by decide +kernel)
theorem lk_136 : Cond.selects RX0 yX0_clearFrom yX0_clearFrom ∈ tb_g := tb_in 268 (by decide +kernel) (by decide +kernel)
theorem lk_137 : Cond.methodLink RX2 182 yX2_isCovered ∈ tb_g := tb_in 273 (by decide +kernel) (by decide +kernel)
set_option maxRecDepth 100000 in
theorem lk_138 : Cond.code yX2_isCovered cX2_isCovered 3 (some .boolean) ∈ tb_g := tb_in 276 rfl (by decide +kernel)
theorem lk_139 : Cond.instanceMethod yX2_isCovered ∈ tb_g := tb_in 275 (by decide +kernel) (by decide +kernel)
theorem lk_140 : Cond.selects RX2 yX2_isCovered yX2_isCovered ∈ tb_g := tb_in 14 (by decide +kernel) (by decide +kernel)
theorem lk_141 : Cond.methodLink RX2 112 yX2_keepUpper ∈ tb_g := tb_in 247 (by decide +kernel) (by decide +kernel)
set_option maxRecDepth 100000 in
theorem lk_142 : Cond.code yX2_keepUpper cX2_keepUpper 1 none ∈ tb_g := tb_in 250 rfl (by decide +kernel)
theorem lk_143 : Cond.instanceMethod yX2_keepUpper ∈ tb_g := tb_in 249 (by decide +kernel) (by decide +kernel)
theorem lk_144 : Cond.selects RX2 yX2_keepUpper yX2_keepUpper ∈ tb_g := tb_in 11 (by decide +kernel) (by decide +kernel)
theorem lk_145 : Cond.methodLink RX2 115 yX2_makeAt ∈ tb_g := tb_in 258 (by decide +kernel) (by decide +kernel)
set_option maxRecDepth 100000 in
theorem lk_146 : Cond.code yX2_makeAt cX2_makeAt 3 none ∈ tb_g := tb_in 261 rfl (by decide +kernel)
theorem lk_147 : Cond.instanceMethod yX2_makeAt ∈ tb_g := tb_in 260 (by decide +kernel) (by decide +kernel)
theorem lk_148 : Cond.selects RX2 yX2_makeAt yX2_makeAt ∈ tb_g := tb_in 12 (by decide +kernel) (by decide +kernel)
theorem lk_149 : Cond.methodLink RX2 118 yX2_settle ∈ tb_g := tb_in 277 (by decide +kernel) (by decide +kernel)
set_option maxRecDepth 100000 in
theorem lk_150 : Cond.code yX2_settle cX2_settle 1 (some .int) ∈ tb_g := tb_in 280 rfl (by decide +kernel)
theorem lk_151 : Cond.instanceMethod yX2_settle ∈ tb_g := tb_in 279 (by decide +kernel) (by decide +kernel)
theorem lk_152 : Cond.selects RX2 yX2_settle yX2_settle ∈ tb_g := tb_in 15 (by decide +kernel) (by decide +kernel)
theorem lk_153 : Cond.methodLink RX2 125 yX2_isFilledDirectory ∈ tb_g := tb_in 289 (by decide +kernel) (by decide +kernel)
set_option maxRecDepth 100000 in
theorem lk_154 : Cond.code yX2_isFilledDirectory cX2_isFilledDirectory 3 (some .boolean) ∈ tb_g := tb_in 292 rfl (by decide +kernel)
theorem lk_155 : Cond.instanceMethod yX2_isFilledDirectory ∈ tb_g := tb_in 291 (by decide +kernel) (by decide +kernel)
theorem lk_156 : Cond.selects RX2 yX2_isFilledDirectory yX2_isFilledDirectory ∈ tb_g := tb_in 16 (by decide +kernel) (by decide +kernel)
theorem lk_157 : Cond.methodLink RX2 129 yX2_unmakeAt ∈ tb_g := tb_in 293 (by decide +kernel) (by decide +kernel)
set_option maxRecDepth 100000 in
theorem lk_158 : Cond.code yX2_unmakeAt cX2_unmakeAt 2 none ∈ tb_g := tb_in 296 rfl (by decide +kernel)
theorem lk_159 : Cond.instanceMethod yX2_unmakeAt ∈ tb_g := tb_in 295 (by decide +kernel) (by decide +kernel)
theorem lk_160 : Cond.selects RX2 yX2_unmakeAt yX2_unmakeAt ∈ tb_g := tb_in 17 (by decide +kernel) (by decide +kernel)
theorem lk_161 : Cond.methodLink RX1 23 yX1_depth ∈ tb_g := tb_in 308 (by decide +kernel) (by decide +kernel)
theorem lk_162 : Cond.methodLink RX2 185 yX1_isBelow ∈ tb_g := tb_in 305 (by decide +kernel) (by decide +kernel)
set_option maxRecDepth 100000 in
theorem lk_163 : Cond.code yX1_isBelow cX1_isBelow 3 (some .boolean) ∈ tb_g := tb_in 307 rfl (by decide +kernel)
theorem lk_164 : Cond.static yX1_isBelow ∈ tb_g := tb_in 306 (by decide +kernel) (by decide +kernel)
theorem lk_165 : Cond.fieldLink RX2 38 "LayeredTree" "noted" "[I" ∈ tb_g := tb_in 86 (by decide +kernel) (by decide +kernel)
theorem lk_166 : Cond.methodLink RX2 191 yX1_below ∈ tb_g := tb_in 317 (by decide +kernel) (by decide +kernel)
set_option maxRecDepth 100000 in
theorem lk_167 : Cond.code yX1_below cX1_below 2 (some .int) ∈ tb_g := tb_in 319 rfl (by decide +kernel)
theorem lk_168 : Cond.static yX1_below ∈ tb_g := tb_in 318 (by decide +kernel) (by decide +kernel)
theorem lk_169 : Cond.methodLink RX2 188 yX2_cellOfObject ∈ tb_g := tb_in 313 (by decide +kernel) (by decide +kernel)
set_option maxRecDepth 100000 in
theorem lk_170 : Cond.code yX2_cellOfObject cX2_cellOfObject 3 (some .int) ∈ tb_g := tb_in 316 rfl (by decide +kernel)
theorem lk_171 : Cond.instanceMethod yX2_cellOfObject ∈ tb_g := tb_in 315 (by decide +kernel) (by decide +kernel)
theorem lk_172 : Cond.selects RX2 yX2_cellOfObject yX2_cellOfObject ∈ tb_g := tb_in 20 (by decide +kernel) (by decide +kernel)
theorem lk_173 : Cond.methodLink RX2 133 yX2_refusalOfTarget ∈ tb_g := tb_in 301 (by decide +kernel) (by decide +kernel)
set_option maxRecDepth 100000 in
theorem lk_174 : Cond.code yX2_refusalOfTarget cX2_refusalOfTarget 5 (some .int) ∈ tb_g := tb_in 304 rfl (by decide +kernel)
theorem lk_175 : Cond.instanceMethod yX2_refusalOfTarget ∈ tb_g := tb_in 303 (by decide +kernel) (by decide +kernel)
theorem lk_176 : Cond.selects RX2 yX2_refusalOfTarget yX2_refusalOfTarget ∈ tb_g := tb_in 18 (by decide +kernel) (by decide +kernel)
theorem lk_177 : Cond.methodLink RX2 136 yX2_noteFrom ∈ tb_g := tb_in 309 (by decide +kernel) (by decide +kernel)
set_option maxRecDepth 100000 in
theorem lk_178 : Cond.code yX2_noteFrom cX2_noteFrom 4 none ∈ tb_g := tb_in 312 rfl (by decide +kernel)
theorem lk_179 : Cond.instanceMethod yX2_noteFrom ∈ tb_g := tb_in 311 (by decide +kernel) (by decide +kernel)
theorem lk_180 : Cond.selects RX2 yX2_noteFrom yX2_noteFrom ∈ tb_g := tb_in 19 (by decide +kernel) (by decide +kernel)
theorem lk_181 : Cond.methodLink RX2 142 yX2_depthOfNoted ∈ tb_g := tb_in 320 (by decide +kernel) (by decide +kernel)
set_option maxRecDepth 100000 in
theorem lk_182 : Cond.code yX2_depthOfNoted cX2_depthOfNoted 3 (some .int) ∈ tb_g := tb_in 323 rfl (by decide +kernel)
theorem lk_183 : Cond.instanceMethod yX2_depthOfNoted ∈ tb_g := tb_in 322 (by decide +kernel) (by decide +kernel)
theorem lk_184 : Cond.selects RX2 yX2_depthOfNoted yX2_depthOfNoted ∈ tb_g := tb_in 21 (by decide +kernel) (by decide +kernel)
theorem lk_185 : Cond.methodLink RX2 145 yX2_makeNotedAt ∈ tb_g := tb_in 324 (by decide +kernel) (by decide +kernel)
set_option maxRecDepth 100000 in
theorem lk_186 : Cond.code yX2_makeNotedAt cX2_makeNotedAt 3 none ∈ tb_g := tb_in 327 rfl (by decide +kernel)
theorem lk_187 : Cond.instanceMethod yX2_makeNotedAt ∈ tb_g := tb_in 326 (by decide +kernel) (by decide +kernel)
theorem lk_188 : Cond.selects RX2 yX2_makeNotedAt yX2_makeNotedAt ∈ tb_g := tb_in 22 (by decide +kernel) (by decide +kernel)
theorem lk_189 : Cond.methodLink RX2 151 yX0_whiteoutCount ∈ tb_g := tb_in 344 (by decide +kernel) (by decide +kernel)
set_option maxRecDepth 100000 in
theorem lk_190 : Cond.code yX0_whiteoutCount cX0_whiteoutCount 1 (some .int) ∈ tb_g := tb_in 347 rfl (by decide +kernel)
theorem lk_191 : Cond.instanceMethod yX0_whiteoutCount ∈ tb_g := tb_in 345 (by decide +kernel) (by decide +kernel)
theorem lk_192 : Cond.selects RX0 yX0_whiteoutCount yX0_whiteoutCount ∈ tb_g := tb_in 346 (by decide +kernel) (by decide +kernel)
theorem lk_193 : Cond.methodLink RX3 35 yX3_depth ∈ tb_g := tb_in 460 (by decide +kernel) (by decide +kernel)
theorem lk_194 : Cond.initialized RX3 ∈ tb_g := tb_in 44 (by decide +kernel) (by decide +kernel)
set_option maxRecDepth 100000 in
theorem lk_195 : Cond.code yX3_depth cX3_depth 1 (some .int) ∈ tb_g := tb_in 462 rfl (by decide +kernel)
theorem lk_196 : Cond.static yX3_depth ∈ tb_g := tb_in 461 (by decide +kernel) (by decide +kernel)
theorem lk_197 : Cond.methodLink RX3 39 yX3_without ∈ tb_g := tb_in 463 (by decide +kernel) (by decide +kernel)
set_option maxRecDepth 100000 in
theorem lk_198 : Cond.code yX3_without cX3_without 4 (some .int) ∈ tb_g := tb_in 465 rfl (by decide +kernel)
theorem lk_199 : Cond.static yX3_without ∈ tb_g := tb_in 464 (by decide +kernel) (by decide +kernel)
theorem lk_200 : Cond.fieldLink RX3 46 "LayeredTreeModel" "parts" "I" ∈ tb_g := tb_in 369 (by decide +kernel) (by decide +kernel)
theorem lk_201 : Cond.fieldLink RX3 52 "LayeredTreeModel" "value" "I" ∈ tb_g := tb_in 371 (by decide +kernel) (by decide +kernel)
theorem lk_202 : Cond.fieldLink RX3 43 "LayeredTreeModel" "found" "I" ∈ tb_g := tb_in 368 (by decide +kernel) (by decide +kernel)
theorem lk_203 : Cond.fieldLink RX3 13 "LayeredTreeModel" "values" "[I" ∈ tb_g := tb_in 365 (by decide +kernel) (by decide +kernel)
theorem lk_204 : Cond.fieldLink RX3 49 "LayeredTreeModel" "first" "I" ∈ tb_g := tb_in 370 (by decide +kernel) (by decide +kernel)
theorem lk_205 : Cond.fieldLink RX3 7 "LayeredTreeModel" "kinds" "[I" ∈ tb_g := tb_in 364 (by decide +kernel) (by decide +kernel)
theorem lk_206 : Cond.fieldLink RX3 31 "LayeredTreeModel" "top" "I" ∈ tb_g := tb_in 361 (by decide +kernel) (by decide +kernel)
theorem lk_207 : Cond.methodLink RX3 55 yX3_resolve ∈ tb_g := tb_in 466 (by decide +kernel) (by decide +kernel)
set_option maxRecDepth 100000 in
theorem lk_208 : Cond.code yX3_resolve cX3_resolve 6 none ∈ tb_g := tb_in 469 rfl (by decide +kernel)
theorem lk_209 : Cond.instanceMethod yX3_resolve ∈ tb_g := tb_in 468 (by decide +kernel) (by decide +kernel)
theorem lk_210 : Cond.selects RX3 yX3_resolve yX3_resolve ∈ tb_g := tb_in 27 (by decide +kernel) (by decide +kernel)
theorem lk_211 : Cond.methodLink RX3 59 yX3_look ∈ tb_g := tb_in 456 (by decide +kernel) (by decide +kernel)
set_option maxRecDepth 100000 in
theorem lk_212 : Cond.code yX3_look cX3_look 4 none ∈ tb_g := tb_in 459 rfl (by decide +kernel)
theorem lk_213 : Cond.instanceMethod yX3_look ∈ tb_g := tb_in 458 (by decide +kernel) (by decide +kernel)
theorem lk_214 : Cond.selects RX3 yX3_look yX3_look ∈ tb_g := tb_in 26 (by decide +kernel) (by decide +kernel)
theorem lk_215 : Cond.methodLink RX3 63 yX3_upper ∈ tb_g := tb_in 444 (by decide +kernel) (by decide +kernel)
set_option maxRecDepth 100000 in
theorem lk_216 : Cond.code yX3_upper cX3_upper 2 (some .int) ∈ tb_g := tb_in 447 rfl (by decide +kernel)
theorem lk_217 : Cond.instanceMethod yX3_upper ∈ tb_g := tb_in 446 (by decide +kernel) (by decide +kernel)
theorem lk_218 : Cond.selects RX3 yX3_upper yX3_upper ∈ tb_g := tb_in 25 (by decide +kernel) (by decide +kernel)
theorem lk_219 : Cond.methodLink RX3 66 yX3_set ∈ tb_g := tb_in 523 (by decide +kernel) (by decide +kernel)
set_option maxRecDepth 100000 in
theorem lk_220 : Cond.code yX3_set cX3_set 4 none ∈ tb_g := tb_in 526 rfl (by decide +kernel)
theorem lk_221 : Cond.instanceMethod yX3_set ∈ tb_g := tb_in 525 (by decide +kernel) (by decide +kernel)
theorem lk_222 : Cond.selects RX3 yX3_set yX3_set ∈ tb_g := tb_in 34 (by decide +kernel) (by decide +kernel)
theorem lk_223 : Cond.fieldLink RX3 69 "LayeredTreeModel" "copyUps" "I" ∈ tb_g := tb_in 363 (by decide +kernel) (by decide +kernel)
theorem lk_224 : Cond.methodLink RX3 72 yX3_isBelow ∈ tb_g := tb_in 535 (by decide +kernel) (by decide +kernel)
set_option maxRecDepth 100000 in
theorem lk_225 : Cond.code yX3_isBelow cX3_isBelow 3 (some .boolean) ∈ tb_g := tb_in 537 rfl (by decide +kernel)
theorem lk_226 : Cond.static yX3_isBelow ∈ tb_g := tb_in 536 (by decide +kernel) (by decide +kernel)
theorem lk_227 : Cond.methodLink RX3 76 yX3_raise ∈ tb_g := tb_in 519 (by decide +kernel) (by decide +kernel)
set_option maxRecDepth 100000 in
theorem lk_228 : Cond.code yX3_raise cX3_raise 4 none ∈ tb_g := tb_in 522 rfl (by decide +kernel)
theorem lk_229 : Cond.instanceMethod yX3_raise ∈ tb_g := tb_in 521 (by decide +kernel) (by decide +kernel)
theorem lk_230 : Cond.selects RX3 yX3_raise yX3_raise ∈ tb_g := tb_in 33 (by decide +kernel) (by decide +kernel)
theorem lk_231 : Cond.methodLink RX3 79 yX3_isCovered ∈ tb_g := tb_in 527 (by decide +kernel) (by decide +kernel)
set_option maxRecDepth 100000 in
theorem lk_232 : Cond.code yX3_isCovered cX3_isCovered 3 (some .boolean) ∈ tb_g := tb_in 530 rfl (by decide +kernel)
theorem lk_233 : Cond.instanceMethod yX3_isCovered ∈ tb_g := tb_in 529 (by decide +kernel) (by decide +kernel)
theorem lk_234 : Cond.selects RX3 yX3_isCovered yX3_isCovered ∈ tb_g := tb_in 35 (by decide +kernel) (by decide +kernel)
theorem lk_235 : Cond.methodLink RX3 83 yX3_strip ∈ tb_g := tb_in 531 (by decide +kernel) (by decide +kernel)
set_option maxRecDepth 100000 in
theorem lk_236 : Cond.code yX3_strip cX3_strip 3 none ∈ tb_g := tb_in 534 rfl (by decide +kernel)
theorem lk_237 : Cond.instanceMethod yX3_strip ∈ tb_g := tb_in 533 (by decide +kernel) (by decide +kernel)
theorem lk_238 : Cond.selects RX3 yX3_strip yX3_strip ∈ tb_g := tb_in 36 (by decide +kernel) (by decide +kernel)
theorem lk_239 : Cond.fieldLink RX3 16 "LayeredTreeModel" "oldKinds" "[I" ∈ tb_g := tb_in 366 (by decide +kernel) (by decide +kernel)
theorem lk_240 : Cond.fieldLink RX3 19 "LayeredTreeModel" "oldValues" "[I" ∈ tb_g := tb_in 367 (by decide +kernel) (by decide +kernel)
theorem lk_241 : Cond.methodLink RX3 89 yX3_isLayer ∈ tb_g := tb_in 411 (by decide +kernel) (by decide +kernel)
set_option maxRecDepth 100000 in
theorem lk_242 : Cond.code yX3_isLayer cX3_isLayer 2 (some .boolean) ∈ tb_g := tb_in 414 rfl (by decide +kernel)
theorem lk_243 : Cond.instanceMethod yX3_isLayer ∈ tb_g := tb_in 413 (by decide +kernel) (by decide +kernel)
theorem lk_244 : Cond.selects RX3 yX3_isLayer yX3_isLayer ∈ tb_g := tb_in 23 (by decide +kernel) (by decide +kernel)
theorem lk_245 : Cond.methodLink RX3 86 yX3_entries ∈ tb_g := tb_in 426 (by decide +kernel) (by decide +kernel)
set_option maxRecDepth 100000 in
theorem lk_246 : Cond.code yX3_entries cX3_entries 4 (some .int) ∈ tb_g := tb_in 410 rfl (by decide +kernel)
theorem lk_247 : Cond.instanceMethod yX3_entries ∈ tb_g := tb_in 408 (by decide +kernel) (by decide +kernel)
theorem lk_248 : Cond.selects RX3 yX3_entries yX3_entries ∈ tb_g := tb_in 409 (by decide +kernel) (by decide +kernel)
theorem lk_249 : Cond.methodLink RX3 99 yX3_room ∈ tb_g := tb_in 422 (by decide +kernel) (by decide +kernel)
set_option maxRecDepth 100000 in
theorem lk_250 : Cond.code yX3_room cX3_room 4 (some .boolean) ∈ tb_g := tb_in 425 rfl (by decide +kernel)
theorem lk_251 : Cond.instanceMethod yX3_room ∈ tb_g := tb_in 424 (by decide +kernel) (by decide +kernel)
theorem lk_252 : Cond.selects RX3 yX3_room yX3_room ∈ tb_g := tb_in 24 (by decide +kernel) (by decide +kernel)
theorem lk_253 : Cond.methodLink RX3 92 yX3_placeOf ∈ tb_g := tb_in 419 (by decide +kernel) (by decide +kernel)
set_option maxRecDepth 100000 in
theorem lk_254 : Cond.code yX3_placeOf cX3_placeOf 4 (some .int) ∈ tb_g := tb_in 421 rfl (by decide +kernel)
theorem lk_255 : Cond.static yX3_placeOf ∈ tb_g := tb_in 420 (by decide +kernel) (by decide +kernel)
theorem lk_256 : Cond.fieldLink RX3 95 "LayeredTreeModel" "mounted" "Z" ∈ tb_g := tb_in 362 (by decide +kernel) (by decide +kernel)
theorem lk_257 : Cond.methodLink RX3 102 yX3_entry ∈ tb_g := tb_in 439 (by decide +kernel) (by decide +kernel)
set_option maxRecDepth 100000 in
theorem lk_258 : Cond.code yX3_entry cX3_entry 4 (some .int) ∈ tb_g := tb_in 434 rfl (by decide +kernel)
theorem lk_259 : Cond.instanceMethod yX3_entry ∈ tb_g := tb_in 432 (by decide +kernel) (by decide +kernel)
theorem lk_260 : Cond.selects RX3 yX3_entry yX3_entry ∈ tb_g := tb_in 433 (by decide +kernel) (by decide +kernel)
theorem lk_261 : Cond.methodLink RX3 105 yX3_kind ∈ tb_g := tb_in 474 (by decide +kernel) (by decide +kernel)
set_option maxRecDepth 100000 in
theorem lk_262 : Cond.code yX3_kind cX3_kind 3 (some .int) ∈ tb_g := tb_in 455 rfl (by decide +kernel)
theorem lk_263 : Cond.instanceMethod yX3_kind ∈ tb_g := tb_in 453 (by decide +kernel) (by decide +kernel)
theorem lk_264 : Cond.selects RX3 yX3_kind yX3_kind ∈ tb_g := tb_in 454 (by decide +kernel) (by decide +kernel)
theorem lk_265 : Cond.methodLink RX3 108 yX3_children ∈ tb_g := tb_in 479 (by decide +kernel) (by decide +kernel)
set_option maxRecDepth 100000 in
theorem lk_266 : Cond.code yX3_children cX3_children 4 (some .int) ∈ tb_g := tb_in 482 rfl (by decide +kernel)
theorem lk_267 : Cond.instanceMethod yX3_children ∈ tb_g := tb_in 481 (by decide +kernel) (by decide +kernel)
theorem lk_268 : Cond.selects RX3 yX3_children yX3_children ∈ tb_g := tb_in 28 (by decide +kernel) (by decide +kernel)
theorem lk_269 : Cond.methodLink RX3 111 yX3_size ∈ tb_g := tb_in 487 (by decide +kernel) (by decide +kernel)
set_option maxRecDepth 100000 in
theorem lk_270 : Cond.code yX3_size cX3_size 3 (some .int) ∈ tb_g := tb_in 478 rfl (by decide +kernel)
theorem lk_271 : Cond.instanceMethod yX3_size ∈ tb_g := tb_in 476 (by decide +kernel) (by decide +kernel)
theorem lk_272 : Cond.selects RX3 yX3_size yX3_size ∈ tb_g := tb_in 477 (by decide +kernel) (by decide +kernel)
theorem lk_273 : Cond.methodLink RX3 114 yX3_isPath ∈ tb_g := tb_in 492 (by decide +kernel) (by decide +kernel)
set_option maxRecDepth 100000 in
theorem lk_274 : Cond.code yX3_isPath cX3_isPath 3 (some .boolean) ∈ tb_g := tb_in 494 rfl (by decide +kernel)
theorem lk_275 : Cond.static yX3_isPath ∈ tb_g := tb_in 493 (by decide +kernel) (by decide +kernel)
theorem lk_276 : Cond.methodLink RX3 117 yX3_target ∈ tb_g := tb_in 503 (by decide +kernel) (by decide +kernel)
set_option maxRecDepth 100000 in
theorem lk_277 : Cond.code yX3_target cX3_target 3 (some .int) ∈ tb_g := tb_in 506 rfl (by decide +kernel)
theorem lk_278 : Cond.instanceMethod yX3_target ∈ tb_g := tb_in 505 (by decide +kernel) (by decide +kernel)
theorem lk_279 : Cond.selects RX3 yX3_target yX3_target ∈ tb_g := tb_in 29 (by decide +kernel) (by decide +kernel)
theorem lk_280 : Cond.methodLink RX3 120 yX3_isDirectory ∈ tb_g := tb_in 507 (by decide +kernel) (by decide +kernel)
set_option maxRecDepth 100000 in
theorem lk_281 : Cond.code yX3_isDirectory cX3_isDirectory 2 (some .boolean) ∈ tb_g := tb_in 510 rfl (by decide +kernel)
theorem lk_282 : Cond.instanceMethod yX3_isDirectory ∈ tb_g := tb_in 509 (by decide +kernel) (by decide +kernel)
theorem lk_283 : Cond.selects RX3 yX3_isDirectory yX3_isDirectory ∈ tb_g := tb_in 30 (by decide +kernel) (by decide +kernel)
theorem lk_284 : Cond.methodLink RX3 123 yX3_keep ∈ tb_g := tb_in 511 (by decide +kernel) (by decide +kernel)
set_option maxRecDepth 100000 in
theorem lk_285 : Cond.code yX3_keep cX3_keep 2 none ∈ tb_g := tb_in 514 rfl (by decide +kernel)
theorem lk_286 : Cond.instanceMethod yX3_keep ∈ tb_g := tb_in 513 (by decide +kernel) (by decide +kernel)
theorem lk_287 : Cond.selects RX3 yX3_keep yX3_keep ∈ tb_g := tb_in 31 (by decide +kernel) (by decide +kernel)
theorem lk_288 : Cond.methodLink RX3 126 yX3_make ∈ tb_g := tb_in 515 (by decide +kernel) (by decide +kernel)
set_option maxRecDepth 100000 in
theorem lk_289 : Cond.code yX3_make cX3_make 5 none ∈ tb_g := tb_in 518 rfl (by decide +kernel)
theorem lk_290 : Cond.instanceMethod yX3_make ∈ tb_g := tb_in 517 (by decide +kernel) (by decide +kernel)
theorem lk_291 : Cond.selects RX3 yX3_make yX3_make ∈ tb_g := tb_in 32 (by decide +kernel) (by decide +kernel)
theorem lk_292 : Cond.methodLink RX3 129 yX3_end ∈ tb_g := tb_in 538 (by decide +kernel) (by decide +kernel)
set_option maxRecDepth 100000 in
theorem lk_293 : Cond.code yX3_end cX3_end 3 (some .int) ∈ tb_g := tb_in 541 rfl (by decide +kernel)
theorem lk_294 : Cond.instanceMethod yX3_end ∈ tb_g := tb_in 540 (by decide +kernel) (by decide +kernel)
theorem lk_295 : Cond.selects RX3 yX3_end yX3_end ∈ tb_g := tb_in 37 (by decide +kernel) (by decide +kernel)
theorem lk_296 : Cond.methodLink RX3 132 yX3_unmake ∈ tb_g := tb_in 550 (by decide +kernel) (by decide +kernel)
set_option maxRecDepth 100000 in
theorem lk_297 : Cond.code yX3_unmake cX3_unmake 2 none ∈ tb_g := tb_in 553 rfl (by decide +kernel)
theorem lk_298 : Cond.instanceMethod yX3_unmake ∈ tb_g := tb_in 552 (by decide +kernel) (by decide +kernel)
theorem lk_299 : Cond.selects RX3 yX3_unmake yX3_unmake ∈ tb_g := tb_in 38 (by decide +kernel) (by decide +kernel)
theorem lk_300 : Cond.fieldLink RX3 22 "LayeredTreeModel" "noted" "[I" ∈ tb_g := tb_in 372 (by decide +kernel) (by decide +kernel)
theorem lk_301 : Cond.fieldLink RX3 135 "LayeredTreeModel" "notes" "I" ∈ tb_g := tb_in 375 (by decide +kernel) (by decide +kernel)
theorem lk_302 : Cond.fieldLink RX3 25 "LayeredTreeModel" "notedKind" "[I" ∈ tb_g := tb_in 373 (by decide +kernel) (by decide +kernel)
theorem lk_303 : Cond.fieldLink RX3 28 "LayeredTreeModel" "notedValue" "[I" ∈ tb_g := tb_in 374 (by decide +kernel) (by decide +kernel)
theorem lk_304 : Cond.methodLink RX3 138 yX3_note ∈ tb_g := tb_in 558 (by decide +kernel) (by decide +kernel)
set_option maxRecDepth 100000 in
theorem lk_305 : Cond.code yX3_note cX3_note 6 (some .int) ∈ tb_g := tb_in 561 rfl (by decide +kernel)
theorem lk_306 : Cond.instanceMethod yX3_note ∈ tb_g := tb_in 560 (by decide +kernel) (by decide +kernel)
theorem lk_307 : Cond.selects RX3 yX3_note yX3_note ∈ tb_g := tb_in 39 (by decide +kernel) (by decide +kernel)
theorem lk_308 : Cond.lays RX0 "LayeredTree$Layer" "whitedOut" "I" ∈ tb_g := tb_in 75 (by decide +kernel) (by decide +kernel)
theorem lk_309 : Cond.lays RX0 "LayeredTree$Layer" "filled" "I" ∈ tb_g := tb_in 73 (by decide +kernel) (by decide +kernel)
theorem lk_310 : Cond.laysFinal RX0 "LayeredTree$Layer" "cells" "[I" ∈ tb_g := tb_in 71 (by decide +kernel) (by decide +kernel)
theorem lk_311 : Cond.laysFinal RX2 "LayeredTree" "noted" "[I" ∈ tb_g := tb_in 101 (by decide +kernel) (by decide +kernel)
theorem lk_312 : Cond.lays RX2 "LayeredTree" "keptCopyUps" "I" ∈ tb_g := tb_in 99 (by decide +kernel) (by decide +kernel)
theorem lk_313 : Cond.laysFinal RX2 "LayeredTree" "keptUpper" "LLayeredTree$Layer;" ∈ tb_g := tb_in 97 (by decide +kernel) (by decide +kernel)
theorem lk_314 : Cond.lays RX2 "LayeredTree" "copyUps" "I" ∈ tb_g := tb_in 95 (by decide +kernel) (by decide +kernel)
theorem lk_315 : Cond.lays RX2 "LayeredTree" "mounted" "Z" ∈ tb_g := tb_in 93 (by decide +kernel) (by decide +kernel)
theorem lk_316 : Cond.laysFinal RX2 "LayeredTree" "upper" "LLayeredTree$Layer;" ∈ tb_g := tb_in 91 (by decide +kernel) (by decide +kernel)
theorem lk_317 : Cond.laysFinal RX2 "LayeredTree" "layers" "[LLayeredTree$Layer;" ∈ tb_g := tb_in 89 (by decide +kernel) (by decide +kernel)
theorem lk_318 : Cond.laysFinal RX2 "LayeredTree" "top" "I" ∈ tb_g := tb_in 87 (by decide +kernel) (by decide +kernel)
theorem lk_319 : Cond.lays RX3 "LayeredTreeModel" "notes" "I" ∈ tb_g := tb_in 404 (by decide +kernel) (by decide +kernel)
theorem lk_320 : Cond.laysFinal RX3 "LayeredTreeModel" "notedValue" "[I" ∈ tb_g := tb_in 402 (by decide +kernel) (by decide +kernel)
theorem lk_321 : Cond.laysFinal RX3 "LayeredTreeModel" "notedKind" "[I" ∈ tb_g := tb_in 400 (by decide +kernel) (by decide +kernel)
theorem lk_322 : Cond.laysFinal RX3 "LayeredTreeModel" "noted" "[I" ∈ tb_g := tb_in 398 (by decide +kernel) (by decide +kernel)
theorem lk_323 : Cond.lays RX3 "LayeredTreeModel" "value" "I" ∈ tb_g := tb_in 396 (by decide +kernel) (by decide +kernel)
theorem lk_324 : Cond.lays RX3 "LayeredTreeModel" "first" "I" ∈ tb_g := tb_in 394 (by decide +kernel) (by decide +kernel)
theorem lk_325 : Cond.lays RX3 "LayeredTreeModel" "parts" "I" ∈ tb_g := tb_in 392 (by decide +kernel) (by decide +kernel)
theorem lk_326 : Cond.lays RX3 "LayeredTreeModel" "found" "I" ∈ tb_g := tb_in 390 (by decide +kernel) (by decide +kernel)
theorem lk_327 : Cond.laysFinal RX3 "LayeredTreeModel" "oldValues" "[I" ∈ tb_g := tb_in 388 (by decide +kernel) (by decide +kernel)
theorem lk_328 : Cond.laysFinal RX3 "LayeredTreeModel" "oldKinds" "[I" ∈ tb_g := tb_in 386 (by decide +kernel) (by decide +kernel)
theorem lk_329 : Cond.laysFinal RX3 "LayeredTreeModel" "values" "[I" ∈ tb_g := tb_in 384 (by decide +kernel) (by decide +kernel)
theorem lk_330 : Cond.laysFinal RX3 "LayeredTreeModel" "kinds" "[I" ∈ tb_g := tb_in 382 (by decide +kernel) (by decide +kernel)
theorem lk_331 : Cond.lays RX3 "LayeredTreeModel" "copyUps" "I" ∈ tb_g := tb_in 380 (by decide +kernel) (by decide +kernel)
theorem lk_332 : Cond.lays RX3 "LayeredTreeModel" "mounted" "Z" ∈ tb_g := tb_in 378 (by decide +kernel) (by decide +kernel)
theorem lk_333 : Cond.laysFinal RX3 "LayeredTreeModel" "top" "I" ∈ tb_g := tb_in 376 (by decide +kernel) (by decide +kernel)
theorem usX0 : ∀ w ∈ u_ws RX0 TX0 3, w ∈ tb_g := List.forall_mem_cons.mpr ⟨lk_310, List.forall_mem_cons.mpr ⟨lk_309, List.forall_mem_cons.mpr ⟨lk_308, fun _ h => absurd h List.not_mem_nil⟩⟩⟩
theorem usX2 : ∀ w ∈ u_ws RX2 TX2 8, w ∈ tb_g := List.forall_mem_cons.mpr ⟨lk_318, List.forall_mem_cons.mpr ⟨lk_317, List.forall_mem_cons.mpr ⟨lk_316, List.forall_mem_cons.mpr ⟨lk_315, List.forall_mem_cons.mpr ⟨lk_314, List.forall_mem_cons.mpr ⟨lk_313, List.forall_mem_cons.mpr ⟨lk_312, List.forall_mem_cons.mpr ⟨lk_311, fun _ h => absurd h List.not_mem_nil⟩⟩⟩⟩⟩⟩⟩⟩
theorem usX3 : ∀ w ∈ u_ws RX3 TX3 15, w ∈ tb_g := List.forall_mem_cons.mpr ⟨lk_333, List.forall_mem_cons.mpr ⟨lk_332, List.forall_mem_cons.mpr ⟨lk_331, List.forall_mem_cons.mpr ⟨lk_330, List.forall_mem_cons.mpr ⟨lk_329, List.forall_mem_cons.mpr ⟨lk_328, List.forall_mem_cons.mpr ⟨lk_327, List.forall_mem_cons.mpr ⟨lk_326, List.forall_mem_cons.mpr ⟨lk_325, List.forall_mem_cons.mpr ⟨lk_324, List.forall_mem_cons.mpr ⟨lk_323, List.forall_mem_cons.mpr ⟨lk_322, List.forall_mem_cons.mpr ⟨lk_321, List.forall_mem_cons.mpr ⟨lk_320, List.forall_mem_cons.mpr ⟨lk_319, fun _ h => absurd h List.not_mem_nil⟩⟩⟩⟩⟩⟩⟩⟩⟩⟩⟩⟩⟩⟩⟩
abbrev wsX2_init : List Cond := .code yX2_init cX2_init 3 none :: tb_g
abbrev wsX2_put : List Cond := .code yX2_put cX2_put 7 (some .boolean) :: tb_g
abbrev wsX2_mount : List Cond := .code yX2_mount cX2_mount 1 (some .boolean) :: tb_g
abbrev wsX2_kind : List Cond := .code yX2_kind cX2_kind 4 (some .int) :: tb_g
abbrev wsX2_read : List Cond := .code yX2_read cX2_read 4 (some .int) :: tb_g
abbrev wsX2_size : List Cond := .code yX2_size cX2_size 3 (some .int) :: tb_g
abbrev wsX2_name : List Cond := .code yX2_name cX2_name 7 (some .int) :: tb_g
abbrev wsX2_objects : List Cond := .code yX2_objects cX2_objects 1 (some .int) :: tb_g
abbrev wsX2_origin : List Cond := .code yX2_origin cX2_origin 4 (some .int) :: tb_g
abbrev wsX2_makeDir : List Cond := .code yX2_makeDir cX2_makeDir 3 (some .int) :: tb_g
abbrev wsX2_write : List Cond := .code yX2_write cX2_write 5 (some .int) :: tb_g
abbrev wsX2_remove : List Cond := .code yX2_remove cX2_remove 4 (some .int) :: tb_g
abbrev wsX2_rename : List Cond := .code yX2_rename cX2_rename 6 (some .int) :: tb_g
abbrev wsX2_entry : List Cond := .code yX2_entry cX2_entry 4 (some .int) :: tb_g
abbrev wsX2_entryValue : List Cond := .code yX2_entryValue cX2_entryValue 4 (some .int) :: tb_g
abbrev wsX2_entries : List Cond := .code yX2_entries cX2_entries 2 (some .int) :: tb_g
abbrev wsX2_whiteouts : List Cond := .code yX2_whiteouts cX2_whiteouts 1 (some .int) :: tb_g
abbrev wsX2_copies : List Cond := .code yX2_copies cX2_copies 1 (some .int) :: tb_g
abbrev wsX2_placeOrRefusal : List Cond := .code yX2_placeOrRefusal cX2_placeOrRefusal 3 (some .int) :: tb_g
abbrev wsX2_objectPlaceOrRefusal : List Cond := .code yX2_objectPlaceOrRefusal cX2_objectPlaceOrRefusal 3 (some .int) :: tb_g
abbrev wsX2_directoryPlaceOrRefusal : List Cond := .code yX2_directoryPlaceOrRefusal cX2_directoryPlaceOrRefusal 4 (some .int) :: tb_g
abbrev wsX2_isLayer : List Cond := .code yX2_isLayer cX2_isLayer 2 (some .boolean) :: tb_g
abbrev wsX2_hasRoomIn : List Cond := .code yX2_hasRoomIn cX2_hasRoomIn 4 (some .boolean) :: tb_g
abbrev wsX2_isDirectory : List Cond := .code yX2_isDirectory cX2_isDirectory 1 (some .boolean) :: tb_g
abbrev wsX2_isFile : List Cond := .code yX2_isFile cX2_isFile 1 (some .boolean) :: tb_g
abbrev wsX2_foundFile : List Cond := .code yX2_foundFile cX2_foundFile 1 (some .int) :: tb_g
abbrev wsX2_layerOfFile : List Cond := .code yX2_layerOfFile cX2_layerOfFile 1 (some .int) :: tb_g
abbrev wsX2_originOf : List Cond := .code yX2_originOf cX2_originOf 3 (some .int) :: tb_g
abbrev wsX2_isPart : List Cond := .code yX2_isPart cX2_isPart 2 (some .boolean) :: tb_g
abbrev wsX2_partOf : List Cond := .code yX2_partOf cX2_partOf 1 (some .int) :: tb_g
abbrev wsX2_allParts : List Cond := .code yX2_allParts cX2_allParts 1 (some .int) :: tb_g
abbrev wsX2_find : List Cond := .code yX2_find cX2_find 4 (some .int) :: tb_g
abbrev wsX2_findAmong : List Cond := .code yX2_findAmong cX2_findAmong 6 (some .int) :: tb_g
abbrev wsX2_isCovered : List Cond := .code yX2_isCovered cX2_isCovered 3 (some .boolean) :: tb_g
abbrev wsX2_countIn : List Cond := .code yX2_countIn cX2_countIn 5 (some .int) :: tb_g
abbrev wsX2_countBelow : List Cond := .code yX2_countBelow cX2_countBelow 7 (some .int) :: tb_g
abbrev wsX2_isFilledDirectory : List Cond := .code yX2_isFilledDirectory cX2_isFilledDirectory 3 (some .boolean) :: tb_g
abbrev wsX2_keepUpper : List Cond := .code yX2_keepUpper cX2_keepUpper 1 none :: tb_g
abbrev wsX2_settle : List Cond := .code yX2_settle cX2_settle 1 (some .int) :: tb_g
abbrev wsX2_raise : List Cond := .code yX2_raise cX2_raise 4 none :: tb_g
abbrev wsX2_makeAt : List Cond := .code yX2_makeAt cX2_makeAt 3 none :: tb_g
abbrev wsX2_unmakeAt : List Cond := .code yX2_unmakeAt cX2_unmakeAt 2 none :: tb_g
abbrev wsX2_refusalOfTarget : List Cond := .code yX2_refusalOfTarget cX2_refusalOfTarget 5 (some .int) :: tb_g
abbrev wsX2_noteFrom : List Cond := .code yX2_noteFrom cX2_noteFrom 4 none :: tb_g
abbrev wsX2_cellOfObject : List Cond := .code yX2_cellOfObject cX2_cellOfObject 3 (some .int) :: tb_g
abbrev wsX2_depthOfNoted : List Cond := .code yX2_depthOfNoted cX2_depthOfNoted 3 (some .int) :: tb_g
abbrev wsX2_makeNotedAt : List Cond := .code yX2_makeNotedAt cX2_makeNotedAt 3 none :: tb_g
abbrev wsX3_init : List Cond := .code yX3_init cX3_init 2 none :: tb_g
abbrev wsX3_placeOf : List Cond := .code yX3_placeOf cX3_placeOf 4 (some .int) :: tb_g
abbrev wsX3_depth : List Cond := .code yX3_depth cX3_depth 1 (some .int) :: tb_g
abbrev wsX3_without : List Cond := .code yX3_without cX3_without 4 (some .int) :: tb_g
abbrev wsX3_isPath : List Cond := .code yX3_isPath cX3_isPath 3 (some .boolean) :: tb_g
abbrev wsX3_isBelow : List Cond := .code yX3_isBelow cX3_isBelow 3 (some .boolean) :: tb_g
abbrev wsX3_resolve : List Cond := .code yX3_resolve cX3_resolve 6 none :: tb_g
abbrev wsX3_look : List Cond := .code yX3_look cX3_look 4 none :: tb_g
abbrev wsX3_isCovered : List Cond := .code yX3_isCovered cX3_isCovered 3 (some .boolean) :: tb_g
abbrev wsX3_children : List Cond := .code yX3_children cX3_children 4 (some .int) :: tb_g
abbrev wsX3_upper : List Cond := .code yX3_upper cX3_upper 2 (some .int) :: tb_g
abbrev wsX3_set : List Cond := .code yX3_set cX3_set 4 none :: tb_g
abbrev wsX3_raise : List Cond := .code yX3_raise cX3_raise 4 none :: tb_g
abbrev wsX3_strip : List Cond := .code yX3_strip cX3_strip 3 none :: tb_g
abbrev wsX3_make : List Cond := .code yX3_make cX3_make 5 none :: tb_g
abbrev wsX3_unmake : List Cond := .code yX3_unmake cX3_unmake 2 none :: tb_g
abbrev wsX3_keep : List Cond := .code yX3_keep cX3_keep 2 none :: tb_g
abbrev wsX3_end : List Cond := .code yX3_end cX3_end 3 (some .int) :: tb_g
abbrev wsX3_isLayer : List Cond := .code yX3_isLayer cX3_isLayer 2 (some .boolean) :: tb_g
abbrev wsX3_entries : List Cond := .code yX3_entries cX3_entries 4 (some .int) :: tb_g
abbrev wsX3_room : List Cond := .code yX3_room cX3_room 4 (some .boolean) :: tb_g
abbrev wsX3_put : List Cond := .code yX3_put cX3_put 8 (some .boolean) :: tb_g
abbrev wsX3_mount : List Cond := .code yX3_mount cX3_mount 2 (some .boolean) :: tb_g
abbrev wsX3_entry : List Cond := .code yX3_entry cX3_entry 4 (some .int) :: tb_g
abbrev wsX3_entryValue : List Cond := .code yX3_entryValue cX3_entryValue 4 (some .int) :: tb_g
abbrev wsX3_whiteouts : List Cond := .code yX3_whiteouts cX3_whiteouts 3 (some .int) :: tb_g
abbrev wsX3_copies : List Cond := .code yX3_copies cX3_copies 1 (some .int) :: tb_g
abbrev wsX3_kind : List Cond := .code yX3_kind cX3_kind 3 (some .int) :: tb_g
abbrev wsX3_read : List Cond := .code yX3_read cX3_read 3 (some .int) :: tb_g
abbrev wsX3_size : List Cond := .code yX3_size cX3_size 3 (some .int) :: tb_g
abbrev wsX3_name : List Cond := .code yX3_name cX3_name 7 (some .int) :: tb_g
abbrev wsX3_objects : List Cond := .code yX3_objects cX3_objects 4 (some .int) :: tb_g
abbrev wsX3_origin : List Cond := .code yX3_origin cX3_origin 3 (some .int) :: tb_g
abbrev wsX3_target : List Cond := .code yX3_target cX3_target 3 (some .int) :: tb_g
abbrev wsX3_isDirectory : List Cond := .code yX3_isDirectory cX3_isDirectory 2 (some .boolean) :: tb_g
abbrev wsX3_makeDir : List Cond := .code yX3_makeDir cX3_makeDir 4 (some .int) :: tb_g
abbrev wsX3_write : List Cond := .code yX3_write cX3_write 6 (some .int) :: tb_g
abbrev wsX3_remove : List Cond := .code yX3_remove cX3_remove 4 (some .int) :: tb_g
abbrev wsX3_note : List Cond := .code yX3_note cX3_note 6 (some .int) :: tb_g
abbrev wsX3_rename : List Cond := .code yX3_rename cX3_rename 14 (some .int) :: tb_g
abbrev wsX0_init : List Cond := .code yX0_init cX0_init 1 none :: tb_g
abbrev wsX0_fileCell : List Cond := .code yX0_fileCell cX0_fileCell 1 (some .int) :: tb_g
abbrev wsX0_kindAt : List Cond := .code yX0_kindAt cX0_kindAt 2 (some .int) :: tb_g
abbrev wsX0_valueAt : List Cond := .code yX0_valueAt cX0_valueAt 2 (some .int) :: tb_g
abbrev wsX0_canHoldIn : List Cond := .code yX0_canHoldIn cX0_canHoldIn 2 (some .boolean) :: tb_g
abbrev wsX0_entryCount : List Cond := .code yX0_entryCount cX0_entryCount 1 (some .int) :: tb_g
abbrev wsX0_whiteoutCount : List Cond := .code yX0_whiteoutCount cX0_whiteoutCount 1 (some .int) :: tb_g
abbrev wsX0_set : List Cond := .code yX0_set cX0_set 3 none :: tb_g
abbrev wsX0_clearFrom : List Cond := .code yX0_clearFrom cX0_clearFrom 6 none :: tb_g
abbrev wsX0_copyFrom : List Cond := .code yX0_copyFrom cX0_copyFrom 2 none :: tb_g
abbrev wsX1_ofPath : List Cond := .code yX1_ofPath cX1_ofPath 4 (some .int) :: tb_g
abbrev wsX1_depth : List Cond := .code yX1_depth cX1_depth 2 (some .int) :: tb_g
abbrev wsX1_child : List Cond := .code yX1_child cX1_child 2 (some .int) :: tb_g
abbrev wsX1_parent : List Cond := .code yX1_parent cX1_parent 1 (some .int) :: tb_g
abbrev wsX1_above : List Cond := .code yX1_above cX1_above 2 (some .int) :: tb_g
abbrev wsX1_below : List Cond := .code yX1_below cX1_below 2 (some .int) :: tb_g
abbrev wsX1_isBelow : List Cond := .code yX1_isBelow cX1_isBelow 3 (some .boolean) :: tb_g
end
section
/-! my own rows: a mirrored function in Option, pure and changing contracts, worlds by lists of addresses -/
abbrev ls_T : Type := (Nat → Int32) × Int32 × Int32
def fu_n : Nat := 6000
def ck_d {α : Type} (b : Prop) [Decidable b] (x : Option α) : Option α := if b then none else x
theorem ck_s {α : Type} {b : Prop} [Decidable b] {x : Option α} {y : α} (h : ck_d b x = some y) : ¬ b ∧ x = some y := by
  unfold ck_d at h
  by_cases hb : b
  · rw [if_pos hb] at h; cases h
  · rw [if_neg hb] at h; exact ⟨hb, h⟩
theorem ck_n {α : Type} {b : Prop} [Decidable b] {x : Option α} (h : ¬ b) : ck_d b x = x := by
  unfold ck_d; rw [if_neg h]
theorem ob_s {α β : Type} {o : Option α} {g : α → Option β} {x : β} (h : o.bind g = some x) : ∃ r, o = some r ∧ g r = some x := by
  cases o with
  | none => cases h
  | some r => exact ⟨r, rfl, h⟩
def ft_1 : Nat → Int32 := fun j => match j with
  | 0 => 0
  | 1 => 1
  | 2 => 6
  | 3 => 31
  | _ => 156
def ft_2 : Nat → Int32 := fun j => match j with
  | 0 => 1
  | 1 => 5
  | 2 => 25
  | 3 => 125
  | _ => 625
/-- addresses that are apart and not below bs -/
def gd_A (bs : Nat) (as : List Nat) : Prop := as.Nodup ∧ ∀ a ∈ as, bs ≤ a
def in_A (as : List Nat) : Nat → Prop := fun q => q ∈ as
theorem bb_A {bs : Nat} {as : List Nat} (h : gd_A bs as) : ∀ q, in_A as q → bs ≤ q := fun q hq => h.2 q hq
theorem gd_sub {bs : Nat} {as as' : List Nat} (h : gd_A bs as) (hs : as'.Sublist as) : gd_A bs as' := ⟨h.1.sublist hs, fun a ha => h.2 a (hs.subset ha)⟩
theorem nd_inj : ∀ (l : List Nat), l.Nodup → ∀ (i j a : Nat), l[i]? = some a → l[j]? = some a → i = j
  | [], _, i, j, a, h, _ => by simp at h
  | b :: l, hn, i, j, a, h1, h2 => by
    obtain ⟨hb, hn⟩ := List.nodup_cons.mp hn
    cases i with
    | zero =>
      cases j with
      | zero => rfl
      | succ j =>
        rw [List.getElem?_cons_zero] at h1
        rw [List.getElem?_cons_succ] at h2
        cases h1
        exact absurd (List.mem_of_getElem? h2) hb
    | succ i =>
      rw [List.getElem?_cons_succ] at h1
      cases j with
      | zero =>
        rw [List.getElem?_cons_zero] at h2
        cases h2
        exact absurd (List.mem_of_getElem? h1) hb
      | succ j =>
        rw [List.getElem?_cons_succ] at h2
        rw [nd_inj l hn i j a h1 h2]
theorem dd_A {bs : Nat} {as : List Nat} {ws : va_W} (h : gd_A bs as) (he : ws.map Prod.fst = as) : va_D (in_A as) ws := by
  subst he
  refine ⟨fun i j p q hi hj hpq => ?_, fun k q hk => List.mem_map.mpr ⟨q, List.mem_of_getElem? hk, rfl⟩⟩
  refine nd_inj _ h.1 i j p.1 ?_ ?_
  · rw [List.getElem?_map, hi]; rfl
  · rw [List.getElem?_map, hj, hpq]; rfl
theorem pz_0 {D : va_G} {cl : List vw_C} {H : Heap} : va_P D cl [] H := fun k q hk => by simp at hk
theorem pm_P {D : va_G} {cl : List vw_C} {ws ws' : va_W} {H : Heap} (h : va_P D cl ws H) (hs : ∀ q ∈ ws', q ∈ ws) : va_P D cl ws' H := fun k q hk => by
  obtain ⟨i, hi⟩ := List.getElem?_of_mem (hs q (List.mem_of_getElem? hk))
  exact h i q hi
/-- behind a call that changed the cells w1 at the addresses as1 alone -/
theorem jn_P {D : va_G} {cl : List vw_C} {ws w1 ws' : va_W} {as1 : List Nat} {H H1 : Heap} (hP : va_P D cl ws H) (hP1 : va_P D cl w1 H1) (hk : ∀ q : Nat, q < H.size → ¬ in_A as1 q → H1[q]? = H[q]?) (hw : ∀ q ∈ ws', q ∈ w1 ∨ (q ∈ ws ∧ q.1 ∉ as1)) : va_P D cl ws' H1 := fun k q hq => by
  rcases hw q (List.mem_of_getElem? hq) with h | ⟨h, ha⟩
  · obtain ⟨i, hi⟩ := List.getElem?_of_mem h
    exact hP1 i q hi
  · obtain ⟨i, hi⟩ := List.getElem?_of_mem h
    exact (hP i q hi).kept (hk q.1 (hP i q hi).lt ha)
section NMQ
variable {p : Program} {l : Launch} {e : Env} {R : Room} {s : State} {m : MethodId} {args : Array Value} {below : List Frame} {meth : Method} {c : Code} {H : Heap} {locs : List Loc} {cells slots : Nat} {Q : State → Prop}
theorem nm_Q {g : JFrame} (k : ∀ Q' : State → Prop, Q' = Q → W p l e R s m args below meth c H locs cells slots Q' g) : W p l e R s m args below meth c H locs cells slots Q g := k Q rfl
variable {cc : ByteArray} {pc : Nat} {ls : Array Slot} {rest st0 : List Value} {a : Array Value} {A0 A1 : Nat → Prop} {H0 : Heap}
/-- a pure call is one instruction -/
theorem pu_calli {v : Int32} (hr : va_Run p l e R s m args below meth c H locs cells slots 0 0 (F0 m pc ls st0) rest (va_Qi (fun r (_ : Unit) => r = v) (fun _ t => t.heap.size = H.size) (fun _ => False) a) (fun _ => False))
    (kk : W p l e R s m args below meth c H locs cells slots Q (F0 m (pc + 3) ls (.int v :: rest))) : W p l e R s m args below meth c H locs cells slots Q (F0 m pc ls st0) := by
  intro T hT X
  obtain ⟨v', st₀, t, T', L, h0, X', hL, e1, e2, ⟨⟨r, u, hv, hp, hz⟩, hz0, hk⟩, st⟩ := hr T hT X
  cases hv
  subst hp
  have hL0 : L = [] := by
    cases L with
    | nil => rfl
    | cons q L => exact (hL q List.mem_cons_self).elim
  subst hL0
  rw [List.append_nil] at X'
  have hH : T'.heap = H := by
    rw [e1]
    apply Array.ext_getElem?
    intro i
    by_cases hi : i < H.size
    · rw [hk i (by rw [h0]; exact hi) (fun z => z), h0]
    · rw [Array.getElem?_eq_none (by omega), Array.getElem?_eq_none (by omega)]
  obtain ⟨t2, a1, b1⟩ := kk T' hH X'
  exact ⟨t2, st t2 a1, b1⟩
theorem im_calli {v : Int32} {Gw : Heap → Prop} (hr : va_Run p l e R s m args below meth c H locs cells slots 0 0 (F0 m pc ls st0) rest (va_Qi (fun r (_ : Unit) => r = v) (fun _ t => Gw t.heap) A1 a) A1) (hS : va_S A0 H0 H locs) (hA : ∀ q, A1 q → A0 q)
    (kk : ∀ (H1 : Heap) (locs1 : List Loc), Gw H1 → (∀ q : Nat, q < H.size → ¬ A1 q → H1[q]? = H[q]?) → va_S A0 H0 H1 locs1 → W p l e R s m args below meth c H1 locs1 cells slots Q (F0 m (pc + 3) ls (.int v :: rest))) : W p l e R s m args below meth c H locs cells slots Q (F0 m pc ls st0) := by
  refine va_calli hr hS (fun q _ h => hA q h) hA (fun r u t H1 locs1 ht _ hp hB _ hk hS1 => ?_)
  subst hp
  subst ht
  exact kk _ locs1 hB hk hS1
theorem im_callv {Gw : Heap → Prop} (hr : va_Run p l e R s m args below meth c H locs cells slots 0 0 (F0 m pc ls st0) rest (va_Qv (fun (_ : Unit) => True) (fun _ t => Gw t.heap) A1 a) A1) (hS : va_S A0 H0 H locs) (hA : ∀ q, A1 q → A0 q)
    (kk : ∀ (H1 : Heap) (locs1 : List Loc), Gw H1 → (∀ q : Nat, q < H.size → ¬ A1 q → H1[q]? = H[q]?) → va_S A0 H0 H1 locs1 → W p l e R s m args below meth c H1 locs1 cells slots Q (F0 m (pc + 3) ls rest)) : W p l e R s m args below meth c H locs cells slots Q (F0 m pc ls st0) := by
  refine va_callv hr hS (fun q _ h => hA q h) hA (fun u t H1 locs1 ht _ hp hB _ hk hS1 => ?_)
  subst ht
  exact kk _ locs1 hB hk hS1
theorem pu_iret {v : Int32} {ty : FieldType} {sz : Nat} (hexec : p.tables.exec = Jvm.exec) (hb : c.code = cc) (hr : meth.sig.returnType = some ty) (hn : narrow ty (.int v) = .int v) (hsz : s.heap.size = sz) (hdg : decode cc pc = .ok (.ireturn, 1)) (hlocks : meth.locks = false) :
    W p l e R s m args below meth c s.heap [] 0 0 (MQ below (va_Qi (fun r (_ : Unit) => r = v) (fun _ t => t.heap.size = sz) (fun _ => False)) args s 0 0 (fun _ => False)) (F0 m pc ls [.int v]) :=
  W.zret hexec hb hr hn (fun t ht _ => ⟨⟨v, (), rfl, rfl, by show t.heap.size = sz; rw [ht]; exact hsz⟩, (va_S.rf (A := fun _ => False)).F ht⟩) (fun q h => by cases h) hdg hlocks
theorem im_iret {v : Int32} {ty : FieldType} {Gw : Heap → Prop} {A : Nat → Prop} (hexec : p.tables.exec = Jvm.exec) (hb : c.code = cc) (hr : meth.sig.returnType = some ty) (hn : narrow ty (.int v) = .int v) (hS : va_S A s.heap H locs) (hG : Gw H) (hdg : decode cc pc = .ok (.ireturn, 1)) (hlocks : meth.locks = false) :
    W p l e R s m args below meth c H locs 0 0 (MQ below (va_Qi (fun r (_ : Unit) => r = v) (fun _ t => Gw t.heap) A) args s 0 0 A) (F0 m pc ls [.int v]) :=
  W.zret hexec hb hr hn (fun t ht _ => ⟨⟨v, (), rfl, rfl, by show Gw t.heap; rw [ht]; exact hG⟩, hS.F ht⟩) hS.2.2 hdg hlocks
theorem im_vret {Gw : Heap → Prop} {A : Nat → Prop} (hexec : p.tables.exec = Jvm.exec) (hb : c.code = cc) (hr : meth.sig.returnType = none) (hS : va_S A s.heap H locs) (hG : Gw H) (hdg : decode cc pc = .ok (.return_, 1)) (hlocks : meth.locks = false) :
    W p l e R s m args below meth c H locs 0 0 (MQ below (va_Qv (fun (_ : Unit) => True) (fun _ t => Gw t.heap) A) args s 0 0 A) (F0 m pc ls []) :=
  W.vret hexec hb hr (fun t ht _ => ⟨⟨(), rfl, trivial, by show Gw t.heap; rw [ht]; exact hG⟩, hS.F ht⟩) hS.2.2 hdg hlocks
end NMQ
/-- a method that changes nothing, and its answer -/
abbrev pu_M (l : Launch) (y : MethodName) (ws : List Cond) (rm : Room) (as : List Value) (Gf : State → Heap → Prop) (v : Int32) : Prop := ∀ sz : Nat, Met l y ws rm (va_Pc as (fun U => U.heap.size = sz ∧ Gf U U.heap)) (va_Qi (fun r (_ : Unit) => r = v) (fun _ t => t.heap.size = sz) (fun _ => False)) 0 0 (fun _ => False)
/-- a method that changes its own cells, those in A -/
abbrev im_I (l : Launch) (y : MethodName) (ws : List Cond) (rm : Room) (as : List Value) (Gf : State → Heap → Prop) (v : Int32) (Gw : Heap → Prop) (A : Nat → Prop) : Prop := ∀ sz : Nat, Met l y ws rm (va_Pc as (fun U => U.heap.size = sz ∧ Gf U U.heap)) (va_Qi (fun r (_ : Unit) => r = v) (fun _ t => Gw t.heap) A) 0 0 A
abbrev im_V (l : Launch) (y : MethodName) (ws : List Cond) (rm : Room) (as : List Value) (Gf : State → Heap → Prop) (Gw : Heap → Prop) (A : Nat → Prop) : Prop := ∀ sz : Nat, Met l y ws rm (va_Pc as (fun U => U.heap.size = sz ∧ Gf U U.heap)) (va_Qv (fun (_ : Unit) => True) (fun _ t => Gw t.heap) A) 0 0 A
end
section
/-! the worlds of this claim, over the names of part 01 -/
section WLD
variable (dC : Nat → ClassId) (dI : Nat → Nat → Nat) (cI cQ : ClassId) (t1 t2 bs : Nat)
/-- tables, the two static rows of Places -/
def gk_K (U : State) (H : Heap) : Prop :=
  va_K (dC, dI) vwCl [(cI, .int), (cQ, .object RX0)] U ∧ va_Z RX1 "FIRST_OF_DEPTH" "[I" (.ref t1) (fun q => bs ≤ q) U H ∧ va_T .int t1 5 (fun j => .int (ft_1 j)) (fun q => bs ≤ q) U H ∧ va_Z RX1 "NUMBER_OF_DEPTH" "[I" (.ref t2) (fun q => bs ≤ q) U H ∧ va_T .int t2 5 (fun j => .int (ft_2 j)) (fun q => bs ≤ q) U H
def gk_G (ws : va_W) (U : State) (H : Heap) : Prop := gk_K dC dI cI cQ t1 t2 bs U H ∧ va_P (dC, dI) vwCl ws H
end WLD
theorem gk_Kw {dC : Nat → ClassId} {dI : Nat → Nat → Nat} {cI cQ : ClassId} {t1 t2 bs : Nat} {u U : State} {H : Heap} (hW : u.WarmedH U.vm) (h : gk_K dC dI cI cQ t1 t2 bs u H) : gk_K dC dI cI cQ t1 t2 bs U H := by
  obtain ⟨h1, h2, h3, h4, h5⟩ := h
  exact ⟨va_K.moved hW.alike h1, va_Z.moved hW.alike h2, va_T.moved hW.alike h3, va_Z.moved hW.alike h4, va_T.moved hW.alike h5⟩
theorem gk_W {dC : Nat → ClassId} {dI : Nat → Nat → Nat} {cI cQ : ClassId} {t1 t2 bs : Nat} {ws : va_W} : ∀ (u U : State) (K : Heap), u.WarmedH U.vm → gk_G dC dI cI cQ t1 t2 bs ws u K → gk_G dC dI cI cQ t1 t2 bs ws U K := fun _ _ _ hW h => ⟨gk_Kw hW h.1, h.2⟩
theorem gk_S {dC : Nat → ClassId} {dI : Nat → Nat → Nat} {cI cQ : ClassId} {t1 t2 bs : Nat} {s : State} {H : Heap} {locs : List Loc} {A : Nat → Prop} (h : gk_K dC dI cI cQ t1 t2 bs s s.heap) (hS : va_S A s.heap H locs) (hA : ∀ q, A q → bs ≤ q) : gk_K dC dI cI cQ t1 t2 bs s H := by
  obtain ⟨h1, h2, h3, h4, h5⟩ := h
  have hk : ∀ a : Nat, a < s.heap.size → ¬ (bs ≤ a) → H[a]? = s.heap[a]? := fun a ha hb => hS.2.1 a ha (fun z => hb (hA a z))
  exact ⟨h1, va_Z.kept h2 hk, va_T.kept h3 hk, va_Z.kept h4 hk, va_T.kept h5 hk⟩
theorem pr_S {as : List Value} {s : State} {H : Heap} {Gf : State → Heap → Prop} (hm : ∀ (u U : State) (K : Heap), u.WarmedH U.vm → Gf u K → Gf U K) (h : Gf s H) : PreS s H (va_Pc as (fun U => U.heap.size = H.size ∧ Gf U U.heap)) as :=
  ⟨fun a U g mk q => ⟨q.1, q.2.1, hm U (U.calling g mk a) _ (State.WarmedH.refl U) q.2.2⟩, fun U hU hW => ⟨rfl, by rw [hU], by rw [hU]; exact hm s U H hW h⟩⟩
theorem pr_V {as : List Value} {s : State} {H : Heap} {C : String} {b : Nat} {Gf : State → Heap → Prop} (hm : ∀ (u U : State) (K : Heap), u.WarmedH U.vm → Gf u K → Gf U K) (hr : ∃ cellB : Cell, H[b]? = some cellB ∧ cellB.vm.isStatics = false ∧ s.vm.findClass C = some cellB.cls) (h : Gf s H) : PreV s H C b (va_Pc (.ref b :: as) (fun U => U.heap.size = H.size ∧ Gf U U.heap)) as :=
  ⟨fun a U g mk q => ⟨q.1, q.2.1, hm U (U.calling g mk a) _ (State.WarmedH.refl U) q.2.2⟩, hr, fun U hU hW => ⟨rfl, by rw [hU], by rw [hU]; exact hm s U H hW h⟩⟩
/-- a layer: its object and its cells -/
abbrev wl_L (cI : ClassId) (a0 a1 : Nat) (f : Nat → Int32) (fi wo : Int32) : va_W := [(a0, .inr (0, [.ref a1, .int fi, .int wo])), (a1, .inl (cI, 781, .inl f))]
abbrev wl_Q (cI : ClassId) (a0 a1 a2 a3 : Nat) (f : Nat → Int32) (fi wo : Int32) (g : Nat → Int32) (gi go : Int32) : va_W := [(a0, .inr (0, [.ref a1, .int fi, .int wo])), (a1, .inl (cI, 781, .inl f)), (a2, .inr (0, [.ref a3, .int gi, .int go])), (a3, .inl (cI, 781, .inl g))]
/-- the layers of a tree -/
def wx_T (cI : ClassId) (lo lc : Nat → Nat) (c : Nat → ls_T) : Nat → va_W
  | 0 => []
  | n + 1 => wx_T cI lo lc c n ++ wl_L cI (lo n) (lc n) (c n).1 (c n).2.1 (c n).2.2
def ad_T (lo lc : Nat → Nat) : Nat → List Nat
  | 0 => []
  | n + 1 => ad_T lo lc n ++ [lo n, lc n]
def ad_X (top xo la ko kc nt : Nat) (lo lc : Nat → Nat) : List Nat := [xo, la, ko, kc, nt] ++ ad_T lo lc (top + 1)
abbrev wx_X (cI cQ : ClassId) (top xo la ko kc nt : Nat) (lo lc : Nat → Nat) (c : Nat → ls_T) (md cu : Int32) (kp : ls_T) (kcu : Int32) (nf : Nat → Int32) : va_W :=
  [(xo, .inr (1, [.int (nI top), .ref la, .ref (lo top), .int md, .int cu, .ref ko, .int kcu, .ref nt])), (la, .inl (cQ, top + 1, .inr (.inr (.inr (.inr (fun j => some (lo j))))))), (ko, .inr (0, [.ref kc, .int kp.2.1, .int kp.2.2])), (kc, .inl (cI, 781, .inl kp.1)), (nt, .inl (cI, 156, .inl nf))] ++ wx_T cI lo lc c (top + 1)
theorem mx_T {cI : ClassId} {lo lc : Nat → Nat} {c : Nat → ls_T} : ∀ n, (wx_T cI lo lc c n).map Prod.fst = ad_T lo lc n
  | 0 => rfl
  | n + 1 => by
    show (wx_T cI lo lc c n ++ _).map Prod.fst = ad_T lo lc n ++ [lo n, lc n]
    rw [List.map_append, mx_T n]; rfl
theorem mx_X {cI cQ : ClassId} {top xo la ko kc nt : Nat} {lo lc : Nat → Nat} {c : Nat → ls_T} {md cu : Int32} {kp : ls_T} {kcu : Int32} {nf : Nat → Int32} : (wx_X cI cQ top xo la ko kc nt lo lc c md cu kp kcu nf).map Prod.fst = ad_X top xo la ko kc nt lo lc := by
  show [xo, la, ko, kc, nt] ++ (wx_T cI lo lc c (top + 1)).map Prod.fst = _
  rw [mx_T]; rfl
theorem tx_in {cI : ClassId} {lo lc : Nat → Nat} {c : Nat → ls_T} : ∀ {n i : Nat}, i < n → ∀ q ∈ wl_L cI (lo i) (lc i) (c i).1 (c i).2.1 (c i).2.2, q ∈ wx_T cI lo lc c n
  | 0, i, h, q, _ => absurd h (Nat.not_lt_zero i)
  | n + 1, i, h, q, hq => by
    show q ∈ wx_T cI lo lc c n ++ _
    rcases Nat.lt_or_eq_of_le (Nat.le_of_lt_succ h) with h | h
    · exact List.mem_append_left _ (tx_in h q hq)
    · subst h; exact List.mem_append_right _ hq
theorem tx_ex {cI : ClassId} {lo lc : Nat → Nat} {c : Nat → ls_T} : ∀ {n : Nat} (q : Nat × va_E), q ∈ wx_T cI lo lc c n → ∃ i, i < n ∧ q ∈ wl_L cI (lo i) (lc i) (c i).1 (c i).2.1 (c i).2.2
  | 0, q, h => by cases h
  | n + 1, q, h => by
    rcases List.mem_append.mp (show q ∈ wx_T cI lo lc c n ++ _ from h) with h | h
    · obtain ⟨i, hi, hq⟩ := tx_ex q h
      exact ⟨i, Nat.lt_succ_of_lt hi, hq⟩
    · exact ⟨n, Nat.lt_succ_self n, h⟩
theorem at_sub {lo lc : Nat → Nat} : ∀ {n i : Nat}, i < n → [lo i, lc i].Sublist (ad_T lo lc n)
  | 0, i, h => absurd h (Nat.not_lt_zero i)
  | n + 1, i, h => by
    show [lo i, lc i].Sublist (ad_T lo lc n ++ [lo n, lc n])
    rcases Nat.lt_or_eq_of_le (Nat.le_of_lt_succ h) with h | h
    · exact (at_sub h).trans (List.sublist_append_left _ _)
    · subst h; exact List.sublist_append_right _ _
theorem at_ne {lo lc : Nat → Nat} : ∀ {n : Nat}, (ad_T lo lc n).Nodup → ∀ {i j : Nat}, i < n → j < n → i ≠ j → ∀ a ∈ [lo i, lc i], a ∉ [lo j, lc j]
  | 0, _, i, j, h, _, _, _, _ => absurd h (Nat.not_lt_zero i)
  | n + 1, hn, i, j, hi, hj, hij, a, ha => by
    have hn : (ad_T lo lc n ++ [lo n, lc n]).Nodup := hn
    obtain ⟨h1, h2, h3⟩ := List.nodup_append.mp hn
    rcases Nat.lt_or_eq_of_le (Nat.le_of_lt_succ hi) with hi | hi <;> rcases Nat.lt_or_eq_of_le (Nat.le_of_lt_succ hj) with hj | hj
    · exact at_ne h1 hi hj hij a ha
    · subst hj
      exact fun hz => h3 a ((at_sub hi).subset ha) a hz rfl
    · subst hi
      exact fun hz => h3 a ((at_sub hj).subset hz) a ha rfl
    · omega
section WX
variable {dC : Nat → ClassId} {dI : Nat → Nat → Nat} {cI cQ : ClassId} {bs top xo la ko kc nt : Nat} {lo lc : Nat → Nat} {c : Nat → ls_T} {md cu : Int32} {kp : ls_T} {kcu : Int32} {nf : Nat → Int32} {H H1 : Heap}
theorem sx_L {i : Nat} (hi : i < top + 1) : [lo i, lc i].Sublist (ad_X top xo la ko kc nt lo lc) := (at_sub hi).trans (List.sublist_append_right _ _)
theorem px_L {i : Nat} (hP : va_P (dC, dI) vwCl (wx_X cI cQ top xo la ko kc nt lo lc c md cu kp kcu nf) H) (hi : i < top + 1) : va_P (dC, dI) vwCl (wl_L cI (lo i) (lc i) (c i).1 (c i).2.1 (c i).2.2) H := pm_P hP (fun q hq => List.mem_append_right _ (tx_in hi q hq))
theorem gx_L {i : Nat} (hg : gd_A bs (ad_X top xo la ko kc nt lo lc)) (hi : i < top + 1) : gd_A bs [lo i, lc i] := gd_sub hg (sx_L hi)
theorem ax_L {i : Nat} (hi : i < top + 1) : ∀ q, in_A [lo i, lc i] q → in_A (ad_X top xo la ko kc nt lo lc) q := fun q h => (sx_L hi).subset h
theorem wl_ad {a0 a1 : Nat} {f : Nat → Int32} {fi wo : Int32} {q : Nat × va_E} (h : q ∈ wl_L cI a0 a1 f fi wo) : q.1 ∈ [a0, a1] := by
  have := List.mem_map_of_mem (f := Prod.fst) h
  exact this
theorem jx_L {i : Nat} {f : Nat → Int32} {fi wo : Int32} (hg : gd_A bs (ad_X top xo la ko kc nt lo lc)) (hi : i < top + 1) (hP : va_P (dC, dI) vwCl (wx_X cI cQ top xo la ko kc nt lo lc c md cu kp kcu nf) H) (hP1 : va_P (dC, dI) vwCl (wl_L cI (lo i) (lc i) f fi wo) H1) (hk : ∀ q : Nat, q < H.size → ¬ in_A [lo i, lc i] q → H1[q]? = H[q]?) : va_P (dC, dI) vwCl (wx_X cI cQ top xo la ko kc nt lo lc (va_up c i (f, fi, wo)) md cu kp kcu nf) H1 := by
  refine jn_P hP hP1 hk (fun q hq => ?_)
  obtain ⟨h1, h2, h3⟩ := List.nodup_append.mp (show ([xo, la, ko, kc, nt] ++ ad_T lo lc (top + 1)).Nodup from hg.1)
  rcases List.mem_append.mp hq with hq | hq
  · refine Or.inr ⟨List.mem_append_left _ hq, fun z => ?_⟩
    exact h3 q.1 (List.mem_map_of_mem (f := Prod.fst) hq) q.1 ((at_sub hi).subset z) rfl
  · obtain ⟨j, hj, hq2⟩ := tx_ex q hq
    by_cases hij : j = i
    · subst hij
      rw [va_up_self] at hq2
      exact Or.inl hq2
    · rw [va_up_ne _ _ hij] at hq2
      exact Or.inr ⟨List.mem_append_right _ (tx_in hj q hq2), at_ne h2 hj hi hij q.1 (wl_ad hq2)⟩
theorem sx_Q : [ko, kc, lo top, lc top].Sublist (ad_X top xo la ko kc nt lo lc) := by
  show ([ko, kc] ++ [lo top, lc top]).Sublist ([xo, la, ko, kc, nt] ++ ad_T lo lc (top + 1))
  refine List.Sublist.append ?_ (at_sub (Nat.lt_succ_self top))
  exact ((List.Sublist.refl [ko, kc]).trans (List.sublist_append_left [ko, kc] [nt])).trans (List.sublist_append_right [xo, la] _)
theorem gx_Q1 (hg : gd_A bs (ad_X top xo la ko kc nt lo lc)) : gd_A bs [ko, kc, lo top, lc top] := gd_sub hg sx_Q
theorem px_Q1 (hP : va_P (dC, dI) vwCl (wx_X cI cQ top xo la ko kc nt lo lc c md cu kp kcu nf) H) : va_P (dC, dI) vwCl (wl_Q cI ko kc (lo top) (lc top) kp.1 kp.2.1 kp.2.2 (c top).1 (c top).2.1 (c top).2.2) H := pm_P hP (fun q hq => by
  rcases List.mem_append.mp (show q ∈ wl_L cI ko kc kp.1 kp.2.1 kp.2.2 ++ wl_L cI (lo top) (lc top) (c top).1 (c top).2.1 (c top).2.2 from hq) with h | h
  · refine List.mem_append_left _ ?_
    simp only [List.mem_cons, List.not_mem_nil, or_false] at h ⊢
    rcases h with h | h <;> simp [h]
  · exact List.mem_append_right _ (tx_in (Nat.lt_succ_self top) q h))
theorem px_Q2 (hP : va_P (dC, dI) vwCl (wx_X cI cQ top xo la ko kc nt lo lc c md cu kp kcu nf) H) : va_P (dC, dI) vwCl (wl_Q cI (lo top) (lc top) ko kc (c top).1 (c top).2.1 (c top).2.2 kp.1 kp.2.1 kp.2.2) H := pm_P (px_Q1 hP) (fun q hq => by
  rcases List.mem_append.mp (show q ∈ wl_L cI (lo top) (lc top) (c top).1 (c top).2.1 (c top).2.2 ++ wl_L cI ko kc kp.1 kp.2.1 kp.2.2 from hq) with h | h
  · exact List.mem_append_right (wl_L cI ko kc kp.1 kp.2.1 kp.2.2) h
  · exact List.mem_append_left (wl_L cI (lo top) (lc top) (c top).1 (c top).2.1 (c top).2.2) h)
theorem gx_Q2 (hg : gd_A bs (ad_X top xo la ko kc nt lo lc)) : gd_A bs [lo top, lc top, ko, kc] := by
  obtain ⟨h1, h2⟩ := gx_Q1 hg
  have hp : ([lo top, lc top] ++ [ko, kc]).Perm ([ko, kc] ++ [lo top, lc top]) := List.perm_append_comm
  exact ⟨hp.nodup_iff.mpr h1, fun a ha => h2 a (hp.mem_iff.mp ha)⟩
theorem ax_Q1 : ∀ q, in_A [ko, kc, lo top, lc top] q → in_A (ad_X top xo la ko kc nt lo lc) q := fun q h => sx_Q.subset h
theorem ax_Q2 : ∀ q, in_A [lo top, lc top, ko, kc] q → in_A (ad_X top xo la ko kc nt lo lc) q := fun q h => sx_Q.subset ((List.perm_append_comm (l₁ := [lo top, lc top]) (l₂ := [ko, kc])).mem_iff.mp h)
theorem hx_b (hg : gd_A bs (ad_X top xo la ko kc nt lo lc)) : ∀ a ∈ [xo, la, nt], a ∉ [ko, kc, lo top, lc top] := by
  obtain ⟨h1, h2, h3⟩ := List.nodup_append.mp (show ([xo, la, ko, kc, nt] ++ ad_T lo lc (top + 1)).Nodup from hg.1)
  intro a ha hz
  have ha5 : a ∈ [xo, la, ko, kc, nt] := by
    simp only [List.mem_cons, List.not_mem_nil, or_false] at ha ⊢
    rcases ha with h | h | h <;> simp [h]
  rcases List.mem_append.mp (show a ∈ [ko, kc] ++ [lo top, lc top] from hz) with z | z
  · simp only [List.nodup_cons, List.mem_cons, List.not_mem_nil, or_false] at h1 ha z
    omega
  · exact h3 a ha5 a ((at_sub (Nat.lt_succ_self top)).subset z) rfl
theorem hx_t (hg : gd_A bs (ad_X top xo la ko kc nt lo lc)) {j : Nat} (hj : j < top + 1) (hne : j ≠ top) : ∀ a ∈ [lo j, lc j], a ∉ [ko, kc, lo top, lc top] := by
  obtain ⟨h1, h2, h3⟩ := List.nodup_append.mp (show ([xo, la, ko, kc, nt] ++ ad_T lo lc (top + 1)).Nodup from hg.1)
  intro a ha hz
  rcases List.mem_append.mp (show a ∈ [ko, kc] ++ [lo top, lc top] from hz) with z | z
  · refine h3 a ?_ a ((at_sub hj).subset ha) rfl
    simp only [List.mem_cons, List.not_mem_nil, or_false] at z ⊢
    rcases z with h | h <;> simp [h]
  · exact at_ne h2 hj (Nat.lt_succ_self top) hne a ha z
theorem jx_Q1 {f : Nat → Int32} {fi wo : Int32} (hg : gd_A bs (ad_X top xo la ko kc nt lo lc)) (hP : va_P (dC, dI) vwCl (wx_X cI cQ top xo la ko kc nt lo lc c md cu kp kcu nf) H) (hP1 : va_P (dC, dI) vwCl (wl_Q cI ko kc (lo top) (lc top) f fi wo (c top).1 (c top).2.1 (c top).2.2) H1) (hk : ∀ q : Nat, q < H.size → ¬ in_A [ko, kc, lo top, lc top] q → H1[q]? = H[q]?) : va_P (dC, dI) vwCl (wx_X cI cQ top xo la ko kc nt lo lc c md cu (f, fi, wo) kcu nf) H1 := by
  refine jn_P hP hP1 hk (fun q hq => ?_)
  rcases List.mem_append.mp hq with hq | hq
  · simp only [List.mem_cons, List.not_mem_nil, or_false] at hq
    rcases hq with h | h | h | h | h
    · exact Or.inr ⟨List.mem_append_left _ (by simp [h]), by rw [h]; exact hx_b hg xo (by simp)⟩
    · exact Or.inr ⟨List.mem_append_left _ (by simp [h]), by rw [h]; exact hx_b hg la (by simp)⟩
    · exact Or.inl (by simp [h])
    · exact Or.inl (by simp [h])
    · exact Or.inr ⟨List.mem_append_left _ (by simp [h]), by rw [h]; exact hx_b hg nt (by simp)⟩
  · obtain ⟨j, hj, hq2⟩ := tx_ex q hq
    by_cases hij : j = top
    · subst hij
      exact Or.inl (List.mem_append_right (wl_L cI ko kc f fi wo) hq2)
    · exact Or.inr ⟨List.mem_append_right _ (tx_in hj q hq2), hx_t hg hj hij q.1 (wl_ad hq2)⟩
theorem jx_Q2 {f : Nat → Int32} {fi wo : Int32} (hg : gd_A bs (ad_X top xo la ko kc nt lo lc)) (hP : va_P (dC, dI) vwCl (wx_X cI cQ top xo la ko kc nt lo lc c md cu kp kcu nf) H) (hP1 : va_P (dC, dI) vwCl (wl_Q cI (lo top) (lc top) ko kc f fi wo kp.1 kp.2.1 kp.2.2) H1) (hk : ∀ q : Nat, q < H.size → ¬ in_A [lo top, lc top, ko, kc] q → H1[q]? = H[q]?) : va_P (dC, dI) vwCl (wx_X cI cQ top xo la ko kc nt lo lc (va_up c top (f, fi, wo)) md cu kp kcu nf) H1 := by
  have hsw : ∀ {a : Nat}, a ∉ [ko, kc, lo top, lc top] → a ∉ [lo top, lc top, ko, kc] := fun h z => h ((List.perm_append_comm (l₁ := [lo top, lc top]) (l₂ := [ko, kc])).mem_iff.mp z)
  refine jn_P hP hP1 hk (fun q hq => ?_)
  rcases List.mem_append.mp hq with hq | hq
  · simp only [List.mem_cons, List.not_mem_nil, or_false] at hq
    rcases hq with h | h | h | h | h
    · exact Or.inr ⟨List.mem_append_left _ (by simp [h]), by rw [h]; exact hsw (hx_b hg xo (by simp))⟩
    · exact Or.inr ⟨List.mem_append_left _ (by simp [h]), by rw [h]; exact hsw (hx_b hg la (by simp))⟩
    · exact Or.inl (by simp [h])
    · exact Or.inl (by simp [h])
    · exact Or.inr ⟨List.mem_append_left _ (by simp [h]), by rw [h]; exact hsw (hx_b hg nt (by simp))⟩
  · obtain ⟨j, hj, hq2⟩ := tx_ex q hq
    by_cases hij : j = top
    · subst hij
      rw [va_up_self] at hq2
      exact Or.inl (List.mem_append_left (wl_L cI ko kc kp.1 kp.2.1 kp.2.2) hq2)
    · rw [va_up_ne _ _ hij] at hq2
      exact Or.inr ⟨List.mem_append_right _ (tx_in hj q hq2), hsw (hx_t hg hj hij q.1 (wl_ad hq2))⟩
end WX
/-- the reference -/
abbrev wm_M (cI : ClassId) (top mo m1 m2 m3 m4 m5 m6 m7 : Nat) (mt cu : Int32) (kn vl ok ov : Nat → Int32) (fo pa fi va : Int32) (nd nk nv : Nat → Int32) (no : Int32) : va_W :=
  [(mo, .inr (2, [.int (nI top), .int mt, .int cu, .ref m1, .ref m2, .ref m3, .ref m4, .int fo, .int pa, .int fi, .int va, .ref m5, .ref m6, .ref m7, .int no])), (m1, .inl (cI, 5184, .inl kn)), (m2, .inl (cI, 5184, .inl vl)), (m3, .inl (cI, 1296, .inl ok)), (m4, .inl (cI, 1296, .inl ov)), (m5, .inl (cI, 96, .inl nd)), (m6, .inl (cI, 96, .inl nk)), (m7, .inl (cI, 96, .inl nv))]
abbrev rm_0_0 : Room := { frames := 0, cells := 0, slots := 0, locals := 0 }
abbrev rm_1_20 : Room := { frames := 1, cells := 0, slots := 0, locals := 20 }
abbrev rm_1_21 : Room := { frames := 1, cells := 0, slots := 0, locals := 21 }
abbrev rm_1_22 : Room := { frames := 1, cells := 0, slots := 0, locals := 22 }
abbrev rm_1_23 : Room := { frames := 1, cells := 0, slots := 0, locals := 23 }
abbrev rm_1_25 : Room := { frames := 1, cells := 0, slots := 0, locals := 25 }
abbrev rm_1_40 : Room := { frames := 1, cells := 0, slots := 0, locals := 40 }
abbrev rm_2_44 : Room := { frames := 2, cells := 0, slots := 0, locals := 44 }
abbrev rm_2_45 : Room := { frames := 2, cells := 0, slots := 0, locals := 45 }
abbrev rm_2_46 : Room := { frames := 2, cells := 0, slots := 0, locals := 46 }
abbrev rm_2_48 : Room := { frames := 2, cells := 0, slots := 0, locals := 48 }
abbrev rm_2_61 : Room := { frames := 2, cells := 0, slots := 0, locals := 61 }
abbrev rm_3_66 : Room := { frames := 3, cells := 0, slots := 0, locals := 66 }
abbrev rm_3_67 : Room := { frames := 3, cells := 0, slots := 0, locals := 67 }
abbrev rm_3_69 : Room := { frames := 3, cells := 0, slots := 0, locals := 69 }
abbrev rm_3_70 : Room := { frames := 3, cells := 0, slots := 0, locals := 70 }
abbrev rm_3_71 : Room := { frames := 3, cells := 0, slots := 0, locals := 71 }
abbrev rm_4_88 : Room := { frames := 4, cells := 0, slots := 0, locals := 88 }
abbrev rm_4_91 : Room := { frames := 4, cells := 0, slots := 0, locals := 91 }
abbrev rm_4_92 : Room := { frames := 4, cells := 0, slots := 0, locals := 92 }
abbrev rm_4_93 : Room := { frames := 4, cells := 0, slots := 0, locals := 93 }
abbrev rm_4_94 : Room := { frames := 4, cells := 0, slots := 0, locals := 94 }
abbrev rm_5_112 : Room := { frames := 5, cells := 0, slots := 0, locals := 112 }
abbrev rm_5_113 : Room := { frames := 5, cells := 0, slots := 0, locals := 113 }
abbrev rm_6_135 : Room := { frames := 6, cells := 0, slots := 0, locals := 135 }
abbrev rm_10_306 : Room := { frames := 10, cells := 0, slots := 0, locals := 306 }
abbrev rc_R (n : Nat) : Room := { frames := n + 3, cells := 0, slots := 0, locals := 30 * n + 100 }
end
section
theorem dX2_init_0 : decode cX2_init 0 = .ok (.aload_n 0, 1) := by decide +kernel
theorem dX2_init_1 : decode cX2_init 1 = .ok (.invokespecial 1, 3) := by decide +kernel
theorem dX2_init_4 : decode cX2_init 4 = .ok (.aload_n 0, 1) := by decide +kernel
theorem dX2_init_5 : decode cX2_init 5 = .ok (.iconst 1, 1) := by decide +kernel
theorem dX2_init_6 : decode cX2_init 6 = .ok (.iload_n 1, 1) := by decide +kernel
theorem dX2_init_7 : decode cX2_init 7 = .ok (.iconst 3, 1) := by decide +kernel
theorem dX2_init_8 : decode cX2_init 8 = .ok (.invokestatic 9, 3) := by decide +kernel
theorem dX2_init_11 : decode cX2_init 11 = .ok (.invokestatic 15, 3) := by decide +kernel
theorem dX2_init_14 : decode cX2_init 14 = .ok (.putfield 18, 3) := by decide +kernel
theorem dX2_init_17 : decode cX2_init 17 = .ok (.aload_n 0, 1) := by decide +kernel
theorem dX2_init_18 : decode cX2_init 18 = .ok (.aload_n 0, 1) := by decide +kernel
theorem dX2_init_19 : decode cX2_init 19 = .ok (.getfield 18, 3) := by decide +kernel
theorem dX2_init_22 : decode cX2_init 22 = .ok (.iconst 1, 1) := by decide +kernel
theorem dX2_init_23 : decode cX2_init 23 = .ok (.iadd, 1) := by decide +kernel
theorem dX2_init_24 : decode cX2_init 24 = .ok (.anewarray 22, 3) := by decide +kernel
theorem dX2_init_27 : decode cX2_init 27 = .ok (.putfield 24, 3) := by decide +kernel
theorem dX2_init_30 : decode cX2_init 30 = .ok (.iconst 0, 1) := by decide +kernel
theorem dX2_init_31 : decode cX2_init 31 = .ok (.istore_n 2, 1) := by decide +kernel
theorem dX2_init_32 : decode cX2_init 32 = .ok (.iload_n 2, 1) := by decide +kernel
theorem dX2_init_33 : decode cX2_init 33 = .ok (.aload_n 0, 1) := by decide +kernel
theorem dX2_init_34 : decode cX2_init 34 = .ok (.getfield 18, 3) := by decide +kernel
theorem dX2_init_37 : decode cX2_init 37 = .ok (.if_icmp .gt 22, 3) := by decide +kernel
theorem dX2_init_40 : decode cX2_init 40 = .ok (.aload_n 0, 1) := by decide +kernel
theorem dX2_init_41 : decode cX2_init 41 = .ok (.getfield 24, 3) := by decide +kernel
theorem dX2_init_44 : decode cX2_init 44 = .ok (.iload_n 2, 1) := by decide +kernel
theorem dX2_init_45 : decode cX2_init 45 = .ok (.new 22, 3) := by decide +kernel
theorem dX2_init_48 : decode cX2_init 48 = .ok (.dup, 1) := by decide +kernel
theorem dX2_init_49 : decode cX2_init 49 = .ok (.invokespecial 28, 3) := by decide +kernel
theorem dX2_init_52 : decode cX2_init 52 = .ok (.aastore, 1) := by decide +kernel
theorem dX2_init_53 : decode cX2_init 53 = .ok (.iinc 2 1, 3) := by decide +kernel
theorem dX2_init_56 : decode cX2_init 56 = .ok (.goto (-24), 3) := by decide +kernel
theorem dX2_init_59 : decode cX2_init 59 = .ok (.aload_n 0, 1) := by decide +kernel
theorem dX2_init_60 : decode cX2_init 60 = .ok (.aload_n 0, 1) := by decide +kernel
theorem dX2_init_61 : decode cX2_init 61 = .ok (.getfield 24, 3) := by decide +kernel
theorem dX2_init_64 : decode cX2_init 64 = .ok (.aload_n 0, 1) := by decide +kernel
theorem dX2_init_65 : decode cX2_init 65 = .ok (.getfield 18, 3) := by decide +kernel
theorem dX2_init_68 : decode cX2_init 68 = .ok (.aaload, 1) := by decide +kernel
theorem dX2_init_69 : decode cX2_init 69 = .ok (.putfield 29, 3) := by decide +kernel
theorem dX2_init_72 : decode cX2_init 72 = .ok (.aload_n 0, 1) := by decide +kernel
theorem dX2_init_73 : decode cX2_init 73 = .ok (.new 22, 3) := by decide +kernel
theorem dX2_init_76 : decode cX2_init 76 = .ok (.dup, 1) := by decide +kernel
theorem dX2_init_77 : decode cX2_init 77 = .ok (.invokespecial 28, 3) := by decide +kernel
theorem dX2_init_80 : decode cX2_init 80 = .ok (.putfield 33, 3) := by decide +kernel
theorem dX2_init_83 : decode cX2_init 83 = .ok (.aload_n 0, 1) := by decide +kernel
theorem dX2_init_84 : decode cX2_init 84 = .ok (.sipush 156, 3) := by decide +kernel
theorem dX2_init_87 : decode cX2_init 87 = .ok (.newarray .int, 2) := by decide +kernel
theorem dX2_init_89 : decode cX2_init 89 = .ok (.putfield 38, 3) := by decide +kernel
theorem dX2_init_92 : decode cX2_init 92 = .ok (.return_, 1) := by decide +kernel
theorem dX2_put_0 : decode cX2_put 0 = .ok (.iload_n 2, 1) := by decide +kernel
theorem dX2_put_1 : decode cX2_put 1 = .ok (.invokestatic 42, 3) := by decide +kernel
theorem dX2_put_4 : decode cX2_put 4 = .ok (.istore 5, 2) := by decide +kernel
theorem dX2_put_6 : decode cX2_put 6 = .ok (.aload_n 0, 1) := by decide +kernel
theorem dX2_put_7 : decode cX2_put 7 = .ok (.getfield 46, 3) := by decide +kernel
theorem dX2_put_10 : decode cX2_put 10 = .ok (.ifCond .ne 16, 3) := by decide +kernel
theorem dX2_put_13 : decode cX2_put 13 = .ok (.aload_n 0, 1) := by decide +kernel
theorem dX2_put_14 : decode cX2_put 14 = .ok (.iload_n 1, 1) := by decide +kernel
theorem dX2_put_15 : decode cX2_put 15 = .ok (.invokevirtual 50, 3) := by decide +kernel
theorem dX2_put_18 : decode cX2_put 18 = .ok (.ifCond .eq 8, 3) := by decide +kernel
theorem dX2_put_21 : decode cX2_put 21 = .ok (.iload 5, 2) := by decide +kernel
theorem dX2_put_23 : decode cX2_put 23 = .ok (.ifCond .gt 5, 3) := by decide +kernel
theorem dX2_put_26 : decode cX2_put 26 = .ok (.iconst 0, 1) := by decide +kernel
theorem dX2_put_27 : decode cX2_put 27 = .ok (.ireturn, 1) := by decide +kernel
theorem dX2_put_28 : decode cX2_put 28 = .ok (.iload_n 3, 1) := by decide +kernel
theorem dX2_put_29 : decode cX2_put 29 = .ok (.iconst 1, 1) := by decide +kernel
theorem dX2_put_30 : decode cX2_put 30 = .ok (.if_icmp .lt 18, 3) := by decide +kernel
theorem dX2_put_33 : decode cX2_put 33 = .ok (.iload_n 3, 1) := by decide +kernel
theorem dX2_put_34 : decode cX2_put 34 = .ok (.iconst 4, 1) := by decide +kernel
theorem dX2_put_35 : decode cX2_put 35 = .ok (.if_icmp .gt 13, 3) := by decide +kernel
theorem dX2_put_38 : decode cX2_put 38 = .ok (.iload_n 3, 1) := by decide +kernel
theorem dX2_put_39 : decode cX2_put 39 = .ok (.iconst 1, 1) := by decide +kernel
theorem dX2_put_40 : decode cX2_put 40 = .ok (.if_icmp .ne 10, 3) := by decide +kernel
theorem dX2_put_43 : decode cX2_put 43 = .ok (.iload 4, 2) := by decide +kernel
theorem dX2_put_45 : decode cX2_put 45 = .ok (.ifCond .ge 5, 3) := by decide +kernel
theorem dX2_put_48 : decode cX2_put 48 = .ok (.iconst 0, 1) := by decide +kernel
theorem dX2_put_49 : decode cX2_put 49 = .ok (.ireturn, 1) := by decide +kernel
theorem dX2_put_50 : decode cX2_put 50 = .ok (.aload_n 0, 1) := by decide +kernel
theorem dX2_put_51 : decode cX2_put 51 = .ok (.getfield 24, 3) := by decide +kernel
theorem dX2_put_54 : decode cX2_put 54 = .ok (.iload_n 1, 1) := by decide +kernel
theorem dX2_put_55 : decode cX2_put 55 = .ok (.aaload, 1) := by decide +kernel
theorem dX2_put_56 : decode cX2_put 56 = .ok (.astore 6, 2) := by decide +kernel
theorem dX2_put_58 : decode cX2_put 58 = .ok (.aload 6, 2) := by decide +kernel
theorem dX2_put_60 : decode cX2_put 60 = .ok (.iload 5, 2) := by decide +kernel
theorem dX2_put_62 : decode cX2_put 62 = .ok (.invokevirtual 54, 3) := by decide +kernel
theorem dX2_put_65 : decode cX2_put 65 = .ok (.ifCond .ne 24, 3) := by decide +kernel
theorem dX2_put_68 : decode cX2_put 68 = .ok (.aload 6, 2) := by decide +kernel
theorem dX2_put_70 : decode cX2_put 70 = .ok (.iload 5, 2) := by decide +kernel
theorem dX2_put_72 : decode cX2_put 72 = .ok (.invokestatic 57, 3) := by decide +kernel
theorem dX2_put_75 : decode cX2_put 75 = .ok (.invokevirtual 60, 3) := by decide +kernel
theorem dX2_put_78 : decode cX2_put 78 = .ok (.ifCond .eq 11, 3) := by decide +kernel
theorem dX2_put_81 : decode cX2_put 81 = .ok (.aload_n 0, 1) := by decide +kernel
theorem dX2_put_82 : decode cX2_put 82 = .ok (.iload_n 1, 1) := by decide +kernel
theorem dX2_put_83 : decode cX2_put 83 = .ok (.invokevirtual 63, 3) := by decide +kernel
theorem dX2_put_86 : decode cX2_put 86 = .ok (.ifCond .ne 5, 3) := by decide +kernel
theorem dX2_put_89 : decode cX2_put 89 = .ok (.iconst 0, 1) := by decide +kernel
theorem dX2_put_90 : decode cX2_put 90 = .ok (.ireturn, 1) := by decide +kernel
theorem dX2_put_91 : decode cX2_put 91 = .ok (.aload 6, 2) := by decide +kernel
theorem dX2_put_93 : decode cX2_put 93 = .ok (.iload 5, 2) := by decide +kernel
theorem dX2_put_95 : decode cX2_put 95 = .ok (.iload_n 3, 1) := by decide +kernel
theorem dX2_put_96 : decode cX2_put 96 = .ok (.iconst 1, 1) := by decide +kernel
theorem dX2_put_97 : decode cX2_put 97 = .ok (.if_icmp .ne 11, 3) := by decide +kernel
theorem dX2_put_100 : decode cX2_put 100 = .ok (.iload 4, 2) := by decide +kernel
theorem dX2_put_102 : decode cX2_put 102 = .ok (.invokestatic 66, 3) := by decide +kernel
theorem dX2_put_105 : decode cX2_put 105 = .ok (.goto 4, 3) := by decide +kernel
theorem dX2_put_108 : decode cX2_put 108 = .ok (.iload_n 3, 1) := by decide +kernel
theorem dX2_put_109 : decode cX2_put 109 = .ok (.invokevirtual 69, 3) := by decide +kernel
theorem dX2_put_112 : decode cX2_put 112 = .ok (.iconst 1, 1) := by decide +kernel
theorem dX2_put_113 : decode cX2_put 113 = .ok (.ireturn, 1) := by decide +kernel
theorem dX2_mount_0 : decode cX2_mount 0 = .ok (.aload_n 0, 1) := by decide +kernel
theorem dX2_mount_1 : decode cX2_mount 1 = .ok (.getfield 46, 3) := by decide +kernel
theorem dX2_mount_4 : decode cX2_mount 4 = .ok (.ifCond .eq 5, 3) := by decide +kernel
theorem dX2_mount_7 : decode cX2_mount 7 = .ok (.iconst 0, 1) := by decide +kernel
theorem dX2_mount_8 : decode cX2_mount 8 = .ok (.ireturn, 1) := by decide +kernel
theorem dX2_mount_9 : decode cX2_mount 9 = .ok (.aload_n 0, 1) := by decide +kernel
theorem dX2_mount_10 : decode cX2_mount 10 = .ok (.iconst 1, 1) := by decide +kernel
theorem dX2_mount_11 : decode cX2_mount 11 = .ok (.putfield 46, 3) := by decide +kernel
theorem dX2_mount_14 : decode cX2_mount 14 = .ok (.iconst 1, 1) := by decide +kernel
theorem dX2_mount_15 : decode cX2_mount 15 = .ok (.ireturn, 1) := by decide +kernel
theorem dX2_kind_0 : decode cX2_kind 0 = .ok (.aload_n 0, 1) := by decide +kernel
theorem dX2_kind_1 : decode cX2_kind 1 = .ok (.iload_n 1, 1) := by decide +kernel
theorem dX2_kind_2 : decode cX2_kind 2 = .ok (.invokevirtual 73, 3) := by decide +kernel
theorem dX2_kind_5 : decode cX2_kind 5 = .ok (.istore_n 2, 1) := by decide +kernel
theorem dX2_kind_6 : decode cX2_kind 6 = .ok (.iload_n 2, 1) := by decide +kernel
theorem dX2_kind_7 : decode cX2_kind 7 = .ok (.ifCond .ge 5, 3) := by decide +kernel
theorem dX2_kind_10 : decode cX2_kind 10 = .ok (.iload_n 2, 1) := by decide +kernel
theorem dX2_kind_11 : decode cX2_kind 11 = .ok (.ireturn, 1) := by decide +kernel
theorem dX2_kind_12 : decode cX2_kind 12 = .ok (.aload_n 0, 1) := by decide +kernel
theorem dX2_kind_13 : decode cX2_kind 13 = .ok (.iload_n 2, 1) := by decide +kernel
theorem dX2_kind_14 : decode cX2_kind 14 = .ok (.invokevirtual 76, 3) := by decide +kernel
theorem dX2_kind_17 : decode cX2_kind 17 = .ok (.istore_n 3, 1) := by decide +kernel
theorem dX2_kind_18 : decode cX2_kind 18 = .ok (.iload_n 3, 1) := by decide +kernel
theorem dX2_kind_19 : decode cX2_kind 19 = .ok (.ifCond .ne 5, 3) := by decide +kernel
theorem dX2_kind_22 : decode cX2_kind 22 = .ok (.iconst 0, 1) := by decide +kernel
theorem dX2_kind_23 : decode cX2_kind 23 = .ok (.ireturn, 1) := by decide +kernel
theorem dX2_kind_24 : decode cX2_kind 24 = .ok (.iload_n 3, 1) := by decide +kernel
theorem dX2_kind_25 : decode cX2_kind 25 = .ok (.invokestatic 79, 3) := by decide +kernel
theorem dX2_kind_28 : decode cX2_kind 28 = .ok (.ifCond .eq 7, 3) := by decide +kernel
theorem dX2_kind_31 : decode cX2_kind 31 = .ok (.iconst 1, 1) := by decide +kernel
theorem dX2_kind_32 : decode cX2_kind 32 = .ok (.goto 4, 3) := by decide +kernel
theorem dX2_kind_35 : decode cX2_kind 35 = .ok (.iconst 2, 1) := by decide +kernel
theorem dX2_kind_36 : decode cX2_kind 36 = .ok (.ireturn, 1) := by decide +kernel
theorem dX2_read_0 : decode cX2_read 0 = .ok (.aload_n 0, 1) := by decide +kernel
theorem dX2_read_1 : decode cX2_read 1 = .ok (.iload_n 1, 1) := by decide +kernel
theorem dX2_read_2 : decode cX2_read 2 = .ok (.invokevirtual 73, 3) := by decide +kernel
theorem dX2_read_5 : decode cX2_read 5 = .ok (.istore_n 2, 1) := by decide +kernel
theorem dX2_read_6 : decode cX2_read 6 = .ok (.iload_n 2, 1) := by decide +kernel
theorem dX2_read_7 : decode cX2_read 7 = .ok (.ifCond .ge 5, 3) := by decide +kernel
theorem dX2_read_10 : decode cX2_read 10 = .ok (.iload_n 2, 1) := by decide +kernel
theorem dX2_read_11 : decode cX2_read 11 = .ok (.ireturn, 1) := by decide +kernel
theorem dX2_read_12 : decode cX2_read 12 = .ok (.aload_n 0, 1) := by decide +kernel
theorem dX2_read_13 : decode cX2_read 13 = .ok (.iload_n 2, 1) := by decide +kernel
theorem dX2_read_14 : decode cX2_read 14 = .ok (.invokevirtual 76, 3) := by decide +kernel
theorem dX2_read_17 : decode cX2_read 17 = .ok (.istore_n 3, 1) := by decide +kernel
theorem dX2_read_18 : decode cX2_read 18 = .ok (.iload_n 3, 1) := by decide +kernel
theorem dX2_read_19 : decode cX2_read 19 = .ok (.ifCond .ne 6, 3) := by decide +kernel
theorem dX2_read_22 : decode cX2_read 22 = .ok (.bipush (-3), 2) := by decide +kernel
theorem dX2_read_24 : decode cX2_read 24 = .ok (.ireturn, 1) := by decide +kernel
theorem dX2_read_25 : decode cX2_read 25 = .ok (.iload_n 3, 1) := by decide +kernel
theorem dX2_read_26 : decode cX2_read 26 = .ok (.invokestatic 79, 3) := by decide +kernel
theorem dX2_read_29 : decode cX2_read 29 = .ok (.ifCond .eq 19, 3) := by decide +kernel
theorem dX2_read_32 : decode cX2_read 32 = .ok (.aload_n 0, 1) := by decide +kernel
theorem dX2_read_33 : decode cX2_read 33 = .ok (.getfield 24, 3) := by decide +kernel
theorem dX2_read_36 : decode cX2_read 36 = .ok (.iload_n 3, 1) := by decide +kernel
theorem dX2_read_37 : decode cX2_read 37 = .ok (.invokestatic 82, 3) := by decide +kernel
theorem dX2_read_40 : decode cX2_read 40 = .ok (.aaload, 1) := by decide +kernel
theorem dX2_read_41 : decode cX2_read 41 = .ok (.iload_n 2, 1) := by decide +kernel
theorem dX2_read_42 : decode cX2_read 42 = .ok (.invokevirtual 85, 3) := by decide +kernel
theorem dX2_read_45 : decode cX2_read 45 = .ok (.goto 5, 3) := by decide +kernel
theorem dX2_read_48 : decode cX2_read 48 = .ok (.bipush (-6), 2) := by decide +kernel
theorem dX2_read_50 : decode cX2_read 50 = .ok (.ireturn, 1) := by decide +kernel
theorem dX2_size_0 : decode cX2_size 0 = .ok (.aload_n 0, 1) := by decide +kernel
theorem dX2_size_1 : decode cX2_size 1 = .ok (.iload_n 1, 1) := by decide +kernel
theorem dX2_size_2 : decode cX2_size 2 = .ok (.invokevirtual 88, 3) := by decide +kernel
theorem dX2_size_5 : decode cX2_size 5 = .ok (.istore_n 2, 1) := by decide +kernel
theorem dX2_size_6 : decode cX2_size 6 = .ok (.iload_n 2, 1) := by decide +kernel
theorem dX2_size_7 : decode cX2_size 7 = .ok (.ifCond .ge 7, 3) := by decide +kernel
theorem dX2_size_10 : decode cX2_size 10 = .ok (.iload_n 2, 1) := by decide +kernel
theorem dX2_size_11 : decode cX2_size 11 = .ok (.goto 13, 3) := by decide +kernel
theorem dX2_size_14 : decode cX2_size 14 = .ok (.aload_n 0, 1) := by decide +kernel
theorem dX2_size_15 : decode cX2_size 15 = .ok (.iload_n 2, 1) := by decide +kernel
theorem dX2_size_16 : decode cX2_size 16 = .ok (.aload_n 0, 1) := by decide +kernel
theorem dX2_size_17 : decode cX2_size 17 = .ok (.iload_n 2, 1) := by decide +kernel
theorem dX2_size_18 : decode cX2_size 18 = .ok (.invokevirtual 76, 3) := by decide +kernel
theorem dX2_size_21 : decode cX2_size 21 = .ok (.invokevirtual 91, 3) := by decide +kernel
theorem dX2_size_24 : decode cX2_size 24 = .ok (.ireturn, 1) := by decide +kernel
theorem dX2_name_0 : decode cX2_name 0 = .ok (.aload_n 0, 1) := by decide +kernel
theorem dX2_name_1 : decode cX2_name 1 = .ok (.iload_n 1, 1) := by decide +kernel
theorem dX2_name_2 : decode cX2_name 2 = .ok (.invokevirtual 88, 3) := by decide +kernel
theorem dX2_name_5 : decode cX2_name 5 = .ok (.istore_n 3, 1) := by decide +kernel
theorem dX2_name_6 : decode cX2_name 6 = .ok (.iload_n 3, 1) := by decide +kernel
theorem dX2_name_7 : decode cX2_name 7 = .ok (.ifCond .ge 5, 3) := by decide +kernel
theorem dX2_name_10 : decode cX2_name 10 = .ok (.iload_n 3, 1) := by decide +kernel
theorem dX2_name_11 : decode cX2_name 11 = .ok (.ireturn, 1) := by decide +kernel
theorem dX2_name_12 : decode cX2_name 12 = .ok (.aload_n 0, 1) := by decide +kernel
theorem dX2_name_13 : decode cX2_name 13 = .ok (.iload_n 3, 1) := by decide +kernel
theorem dX2_name_14 : decode cX2_name 14 = .ok (.invokevirtual 76, 3) := by decide +kernel
theorem dX2_name_17 : decode cX2_name 17 = .ok (.istore 4, 2) := by decide +kernel
theorem dX2_name_19 : decode cX2_name 19 = .ok (.iconst 0, 1) := by decide +kernel
theorem dX2_name_20 : decode cX2_name 20 = .ok (.istore 5, 2) := by decide +kernel
theorem dX2_name_22 : decode cX2_name 22 = .ok (.iconst 1, 1) := by decide +kernel
theorem dX2_name_23 : decode cX2_name 23 = .ok (.istore 6, 2) := by decide +kernel
theorem dX2_name_25 : decode cX2_name 25 = .ok (.iload 6, 2) := by decide +kernel
theorem dX2_name_27 : decode cX2_name 27 = .ok (.iconst 5, 1) := by decide +kernel
theorem dX2_name_28 : decode cX2_name 28 = .ok (.if_icmp .gt 36, 3) := by decide +kernel
theorem dX2_name_31 : decode cX2_name 31 = .ok (.aload_n 0, 1) := by decide +kernel
theorem dX2_name_32 : decode cX2_name 32 = .ok (.iload 4, 2) := by decide +kernel
theorem dX2_name_34 : decode cX2_name 34 = .ok (.iload_n 3, 1) := by decide +kernel
theorem dX2_name_35 : decode cX2_name 35 = .ok (.iload 6, 2) := by decide +kernel
theorem dX2_name_37 : decode cX2_name 37 = .ok (.invokestatic 94, 3) := by decide +kernel
theorem dX2_name_40 : decode cX2_name 40 = .ok (.invokevirtual 97, 3) := by decide +kernel
theorem dX2_name_43 : decode cX2_name 43 = .ok (.ifCond .eq 15, 3) := by decide +kernel
theorem dX2_name_46 : decode cX2_name 46 = .ok (.iload 5, 2) := by decide +kernel
theorem dX2_name_48 : decode cX2_name 48 = .ok (.iload_n 2, 1) := by decide +kernel
theorem dX2_name_49 : decode cX2_name 49 = .ok (.if_icmp .ne 6, 3) := by decide +kernel
theorem dX2_name_52 : decode cX2_name 52 = .ok (.iload 6, 2) := by decide +kernel
theorem dX2_name_54 : decode cX2_name 54 = .ok (.ireturn, 1) := by decide +kernel
theorem dX2_name_55 : decode cX2_name 55 = .ok (.iinc 5 1, 3) := by decide +kernel
theorem dX2_name_58 : decode cX2_name 58 = .ok (.iinc 6 1, 3) := by decide +kernel
theorem dX2_name_61 : decode cX2_name 61 = .ok (.goto (-36), 3) := by decide +kernel
theorem dX2_name_64 : decode cX2_name 64 = .ok (.bipush (-3), 2) := by decide +kernel
theorem dX2_name_66 : decode cX2_name 66 = .ok (.ireturn, 1) := by decide +kernel
theorem dX2_objects_0 : decode cX2_objects 0 = .ok (.aload_n 0, 1) := by decide +kernel
theorem dX2_objects_1 : decode cX2_objects 1 = .ok (.getfield 46, 3) := by decide +kernel
theorem dX2_objects_4 : decode cX2_objects 4 = .ok (.ifCond .eq 16, 3) := by decide +kernel
theorem dX2_objects_7 : decode cX2_objects 7 = .ok (.aload_n 0, 1) := by decide +kernel
theorem dX2_objects_8 : decode cX2_objects 8 = .ok (.iconst 0, 1) := by decide +kernel
theorem dX2_objects_9 : decode cX2_objects 9 = .ok (.aload_n 0, 1) := by decide +kernel
theorem dX2_objects_10 : decode cX2_objects 10 = .ok (.iconst 0, 1) := by decide +kernel
theorem dX2_objects_11 : decode cX2_objects 11 = .ok (.invokevirtual 76, 3) := by decide +kernel
theorem dX2_objects_14 : decode cX2_objects 14 = .ok (.invokevirtual 100, 3) := by decide +kernel
theorem dX2_objects_17 : decode cX2_objects 17 = .ok (.goto 4, 3) := by decide +kernel
theorem dX2_objects_20 : decode cX2_objects 20 = .ok (.iconst (-1), 1) := by decide +kernel
theorem dX2_objects_21 : decode cX2_objects 21 = .ok (.ireturn, 1) := by decide +kernel
theorem dX2_origin_0 : decode cX2_origin 0 = .ok (.aload_n 0, 1) := by decide +kernel
theorem dX2_origin_1 : decode cX2_origin 1 = .ok (.iload_n 1, 1) := by decide +kernel
theorem dX2_origin_2 : decode cX2_origin 2 = .ok (.invokevirtual 103, 3) := by decide +kernel
theorem dX2_origin_5 : decode cX2_origin 5 = .ok (.istore_n 2, 1) := by decide +kernel
theorem dX2_origin_6 : decode cX2_origin 6 = .ok (.iload_n 2, 1) := by decide +kernel
theorem dX2_origin_7 : decode cX2_origin 7 = .ok (.ifCond .ge 5, 3) := by decide +kernel
theorem dX2_origin_10 : decode cX2_origin 10 = .ok (.iload_n 2, 1) := by decide +kernel
theorem dX2_origin_11 : decode cX2_origin 11 = .ok (.ireturn, 1) := by decide +kernel
theorem dX2_origin_12 : decode cX2_origin 12 = .ok (.aload_n 0, 1) := by decide +kernel
theorem dX2_origin_13 : decode cX2_origin 13 = .ok (.iload_n 2, 1) := by decide +kernel
theorem dX2_origin_14 : decode cX2_origin 14 = .ok (.invokevirtual 76, 3) := by decide +kernel
theorem dX2_origin_17 : decode cX2_origin 17 = .ok (.istore_n 3, 1) := by decide +kernel
theorem dX2_origin_18 : decode cX2_origin 18 = .ok (.iload_n 3, 1) := by decide +kernel
theorem dX2_origin_19 : decode cX2_origin 19 = .ok (.ifCond .ne 8, 3) := by decide +kernel
theorem dX2_origin_22 : decode cX2_origin 22 = .ok (.bipush (-3), 2) := by decide +kernel
theorem dX2_origin_24 : decode cX2_origin 24 = .ok (.goto 8, 3) := by decide +kernel
theorem dX2_origin_27 : decode cX2_origin 27 = .ok (.aload_n 0, 1) := by decide +kernel
theorem dX2_origin_28 : decode cX2_origin 28 = .ok (.iload_n 3, 1) := by decide +kernel
theorem dX2_origin_29 : decode cX2_origin 29 = .ok (.invokevirtual 106, 3) := by decide +kernel
theorem dX2_origin_32 : decode cX2_origin 32 = .ok (.ireturn, 1) := by decide +kernel
theorem dX2_makeDir_0 : decode cX2_makeDir 0 = .ok (.aload_n 0, 1) := by decide +kernel
theorem dX2_makeDir_1 : decode cX2_makeDir 1 = .ok (.iload_n 1, 1) := by decide +kernel
theorem dX2_makeDir_2 : decode cX2_makeDir 2 = .ok (.invokevirtual 103, 3) := by decide +kernel
theorem dX2_makeDir_5 : decode cX2_makeDir 5 = .ok (.istore_n 2, 1) := by decide +kernel
theorem dX2_makeDir_6 : decode cX2_makeDir 6 = .ok (.iload_n 2, 1) := by decide +kernel
theorem dX2_makeDir_7 : decode cX2_makeDir 7 = .ok (.ifCond .ge 5, 3) := by decide +kernel
theorem dX2_makeDir_10 : decode cX2_makeDir 10 = .ok (.iload_n 2, 1) := by decide +kernel
theorem dX2_makeDir_11 : decode cX2_makeDir 11 = .ok (.ireturn, 1) := by decide +kernel
theorem dX2_makeDir_12 : decode cX2_makeDir 12 = .ok (.aload_n 0, 1) := by decide +kernel
theorem dX2_makeDir_13 : decode cX2_makeDir 13 = .ok (.iload_n 2, 1) := by decide +kernel
theorem dX2_makeDir_14 : decode cX2_makeDir 14 = .ok (.invokestatic 57, 3) := by decide +kernel
theorem dX2_makeDir_17 : decode cX2_makeDir 17 = .ok (.invokevirtual 76, 3) := by decide +kernel
theorem dX2_makeDir_20 : decode cX2_makeDir 20 = .ok (.invokestatic 109, 3) := by decide +kernel
theorem dX2_makeDir_23 : decode cX2_makeDir 23 = .ok (.ifCond .ne 6, 3) := by decide +kernel
theorem dX2_makeDir_26 : decode cX2_makeDir 26 = .ok (.bipush (-4), 2) := by decide +kernel
theorem dX2_makeDir_28 : decode cX2_makeDir 28 = .ok (.ireturn, 1) := by decide +kernel
theorem dX2_makeDir_29 : decode cX2_makeDir 29 = .ok (.aload_n 0, 1) := by decide +kernel
theorem dX2_makeDir_30 : decode cX2_makeDir 30 = .ok (.iload_n 2, 1) := by decide +kernel
theorem dX2_makeDir_31 : decode cX2_makeDir 31 = .ok (.invokevirtual 76, 3) := by decide +kernel
theorem dX2_makeDir_34 : decode cX2_makeDir 34 = .ok (.ifCond .eq 6, 3) := by decide +kernel
theorem dX2_makeDir_37 : decode cX2_makeDir 37 = .ok (.bipush (-5), 2) := by decide +kernel
theorem dX2_makeDir_39 : decode cX2_makeDir 39 = .ok (.ireturn, 1) := by decide +kernel
theorem dX2_makeDir_40 : decode cX2_makeDir 40 = .ok (.aload_n 0, 1) := by decide +kernel
theorem dX2_makeDir_41 : decode cX2_makeDir 41 = .ok (.invokevirtual 112, 3) := by decide +kernel
theorem dX2_makeDir_44 : decode cX2_makeDir 44 = .ok (.aload_n 0, 1) := by decide +kernel
theorem dX2_makeDir_45 : decode cX2_makeDir 45 = .ok (.iload_n 2, 1) := by decide +kernel
theorem dX2_makeDir_46 : decode cX2_makeDir 46 = .ok (.iconst 2, 1) := by decide +kernel
theorem dX2_makeDir_47 : decode cX2_makeDir 47 = .ok (.invokevirtual 115, 3) := by decide +kernel
theorem dX2_makeDir_50 : decode cX2_makeDir 50 = .ok (.aload_n 0, 1) := by decide +kernel
theorem dX2_makeDir_51 : decode cX2_makeDir 51 = .ok (.invokevirtual 118, 3) := by decide +kernel
theorem dX2_makeDir_54 : decode cX2_makeDir 54 = .ok (.ireturn, 1) := by decide +kernel
theorem dX2_write_0 : decode cX2_write 0 = .ok (.aload_n 0, 1) := by decide +kernel
theorem dX2_write_1 : decode cX2_write 1 = .ok (.iload_n 1, 1) := by decide +kernel
theorem dX2_write_2 : decode cX2_write 2 = .ok (.invokevirtual 103, 3) := by decide +kernel
theorem dX2_write_5 : decode cX2_write 5 = .ok (.istore_n 3, 1) := by decide +kernel
theorem dX2_write_6 : decode cX2_write 6 = .ok (.iload_n 3, 1) := by decide +kernel
theorem dX2_write_7 : decode cX2_write 7 = .ok (.ifCond .ge 5, 3) := by decide +kernel
theorem dX2_write_10 : decode cX2_write 10 = .ok (.iload_n 3, 1) := by decide +kernel
theorem dX2_write_11 : decode cX2_write 11 = .ok (.ireturn, 1) := by decide +kernel
theorem dX2_write_12 : decode cX2_write 12 = .ok (.iload_n 2, 1) := by decide +kernel
theorem dX2_write_13 : decode cX2_write 13 = .ok (.ifCond .ge 6, 3) := by decide +kernel
theorem dX2_write_16 : decode cX2_write 16 = .ok (.bipush (-2), 2) := by decide +kernel
theorem dX2_write_18 : decode cX2_write 18 = .ok (.ireturn, 1) := by decide +kernel
theorem dX2_write_19 : decode cX2_write 19 = .ok (.aload_n 0, 1) := by decide +kernel
theorem dX2_write_20 : decode cX2_write 20 = .ok (.iload_n 3, 1) := by decide +kernel
theorem dX2_write_21 : decode cX2_write 21 = .ok (.invokestatic 57, 3) := by decide +kernel
theorem dX2_write_24 : decode cX2_write 24 = .ok (.invokevirtual 76, 3) := by decide +kernel
theorem dX2_write_27 : decode cX2_write 27 = .ok (.invokestatic 109, 3) := by decide +kernel
theorem dX2_write_30 : decode cX2_write 30 = .ok (.ifCond .ne 6, 3) := by decide +kernel
theorem dX2_write_33 : decode cX2_write 33 = .ok (.bipush (-4), 2) := by decide +kernel
theorem dX2_write_35 : decode cX2_write 35 = .ok (.ireturn, 1) := by decide +kernel
theorem dX2_write_36 : decode cX2_write 36 = .ok (.aload_n 0, 1) := by decide +kernel
theorem dX2_write_37 : decode cX2_write 37 = .ok (.iload_n 3, 1) := by decide +kernel
theorem dX2_write_38 : decode cX2_write 38 = .ok (.invokevirtual 76, 3) := by decide +kernel
theorem dX2_write_41 : decode cX2_write 41 = .ok (.istore 4, 2) := by decide +kernel
theorem dX2_write_43 : decode cX2_write 43 = .ok (.iload 4, 2) := by decide +kernel
theorem dX2_write_45 : decode cX2_write 45 = .ok (.invokestatic 109, 3) := by decide +kernel
theorem dX2_write_48 : decode cX2_write 48 = .ok (.ifCond .eq 6, 3) := by decide +kernel
theorem dX2_write_51 : decode cX2_write 51 = .ok (.bipush (-6), 2) := by decide +kernel
theorem dX2_write_53 : decode cX2_write 53 = .ok (.ireturn, 1) := by decide +kernel
theorem dX2_write_54 : decode cX2_write 54 = .ok (.aload_n 0, 1) := by decide +kernel
theorem dX2_write_55 : decode cX2_write 55 = .ok (.invokevirtual 112, 3) := by decide +kernel
theorem dX2_write_58 : decode cX2_write 58 = .ok (.iload 4, 2) := by decide +kernel
theorem dX2_write_60 : decode cX2_write 60 = .ok (.invokestatic 79, 3) := by decide +kernel
theorem dX2_write_63 : decode cX2_write 63 = .ok (.ifCond .eq 25, 3) := by decide +kernel
theorem dX2_write_66 : decode cX2_write 66 = .ok (.iload 4, 2) := by decide +kernel
theorem dX2_write_68 : decode cX2_write 68 = .ok (.invokestatic 82, 3) := by decide +kernel
theorem dX2_write_71 : decode cX2_write 71 = .ok (.aload_n 0, 1) := by decide +kernel
theorem dX2_write_72 : decode cX2_write 72 = .ok (.getfield 18, 3) := by decide +kernel
theorem dX2_write_75 : decode cX2_write 75 = .ok (.if_icmp .eq 13, 3) := by decide +kernel
theorem dX2_write_78 : decode cX2_write 78 = .ok (.aload_n 0, 1) := by decide +kernel
theorem dX2_write_79 : decode cX2_write 79 = .ok (.dup, 1) := by decide +kernel
theorem dX2_write_80 : decode cX2_write 80 = .ok (.getfield 122, 3) := by decide +kernel
theorem dX2_write_83 : decode cX2_write 83 = .ok (.iconst 1, 1) := by decide +kernel
theorem dX2_write_84 : decode cX2_write 84 = .ok (.iadd, 1) := by decide +kernel
theorem dX2_write_85 : decode cX2_write 85 = .ok (.putfield 122, 3) := by decide +kernel
theorem dX2_write_88 : decode cX2_write 88 = .ok (.aload_n 0, 1) := by decide +kernel
theorem dX2_write_89 : decode cX2_write 89 = .ok (.iload_n 3, 1) := by decide +kernel
theorem dX2_write_90 : decode cX2_write 90 = .ok (.iload_n 2, 1) := by decide +kernel
theorem dX2_write_91 : decode cX2_write 91 = .ok (.invokestatic 66, 3) := by decide +kernel
theorem dX2_write_94 : decode cX2_write 94 = .ok (.invokevirtual 115, 3) := by decide +kernel
theorem dX2_write_97 : decode cX2_write 97 = .ok (.aload_n 0, 1) := by decide +kernel
theorem dX2_write_98 : decode cX2_write 98 = .ok (.invokevirtual 118, 3) := by decide +kernel
theorem dX2_write_101 : decode cX2_write 101 = .ok (.ireturn, 1) := by decide +kernel
theorem dX2_remove_0 : decode cX2_remove 0 = .ok (.aload_n 0, 1) := by decide +kernel
theorem dX2_remove_1 : decode cX2_remove 1 = .ok (.iload_n 1, 1) := by decide +kernel
theorem dX2_remove_2 : decode cX2_remove 2 = .ok (.invokevirtual 103, 3) := by decide +kernel
theorem dX2_remove_5 : decode cX2_remove 5 = .ok (.istore_n 2, 1) := by decide +kernel
theorem dX2_remove_6 : decode cX2_remove 6 = .ok (.iload_n 2, 1) := by decide +kernel
theorem dX2_remove_7 : decode cX2_remove 7 = .ok (.ifCond .ge 5, 3) := by decide +kernel
theorem dX2_remove_10 : decode cX2_remove 10 = .ok (.iload_n 2, 1) := by decide +kernel
theorem dX2_remove_11 : decode cX2_remove 11 = .ok (.ireturn, 1) := by decide +kernel
theorem dX2_remove_12 : decode cX2_remove 12 = .ok (.aload_n 0, 1) := by decide +kernel
theorem dX2_remove_13 : decode cX2_remove 13 = .ok (.iload_n 2, 1) := by decide +kernel
theorem dX2_remove_14 : decode cX2_remove 14 = .ok (.invokevirtual 76, 3) := by decide +kernel
theorem dX2_remove_17 : decode cX2_remove 17 = .ok (.istore_n 3, 1) := by decide +kernel
theorem dX2_remove_18 : decode cX2_remove 18 = .ok (.iload_n 3, 1) := by decide +kernel
theorem dX2_remove_19 : decode cX2_remove 19 = .ok (.ifCond .ne 6, 3) := by decide +kernel
theorem dX2_remove_22 : decode cX2_remove 22 = .ok (.bipush (-3), 2) := by decide +kernel
theorem dX2_remove_24 : decode cX2_remove 24 = .ok (.ireturn, 1) := by decide +kernel
theorem dX2_remove_25 : decode cX2_remove 25 = .ok (.aload_n 0, 1) := by decide +kernel
theorem dX2_remove_26 : decode cX2_remove 26 = .ok (.iload_n 2, 1) := by decide +kernel
theorem dX2_remove_27 : decode cX2_remove 27 = .ok (.iload_n 3, 1) := by decide +kernel
theorem dX2_remove_28 : decode cX2_remove 28 = .ok (.invokevirtual 125, 3) := by decide +kernel
theorem dX2_remove_31 : decode cX2_remove 31 = .ok (.ifCond .eq 6, 3) := by decide +kernel
theorem dX2_remove_34 : decode cX2_remove 34 = .ok (.bipush (-8), 2) := by decide +kernel
theorem dX2_remove_36 : decode cX2_remove 36 = .ok (.ireturn, 1) := by decide +kernel
theorem dX2_remove_37 : decode cX2_remove 37 = .ok (.aload_n 0, 1) := by decide +kernel
theorem dX2_remove_38 : decode cX2_remove 38 = .ok (.invokevirtual 112, 3) := by decide +kernel
theorem dX2_remove_41 : decode cX2_remove 41 = .ok (.aload_n 0, 1) := by decide +kernel
theorem dX2_remove_42 : decode cX2_remove 42 = .ok (.iload_n 2, 1) := by decide +kernel
theorem dX2_remove_43 : decode cX2_remove 43 = .ok (.invokevirtual 129, 3) := by decide +kernel
theorem dX2_remove_46 : decode cX2_remove 46 = .ok (.aload_n 0, 1) := by decide +kernel
theorem dX2_remove_47 : decode cX2_remove 47 = .ok (.invokevirtual 118, 3) := by decide +kernel
theorem dX2_remove_50 : decode cX2_remove 50 = .ok (.ireturn, 1) := by decide +kernel
theorem dX2_rename_0 : decode cX2_rename 0 = .ok (.aload_n 0, 1) := by decide +kernel
theorem dX2_rename_1 : decode cX2_rename 1 = .ok (.iload_n 1, 1) := by decide +kernel
theorem dX2_rename_2 : decode cX2_rename 2 = .ok (.invokevirtual 103, 3) := by decide +kernel
theorem dX2_rename_5 : decode cX2_rename 5 = .ok (.istore_n 3, 1) := by decide +kernel
theorem dX2_rename_6 : decode cX2_rename 6 = .ok (.aload_n 0, 1) := by decide +kernel
theorem dX2_rename_7 : decode cX2_rename 7 = .ok (.iload_n 2, 1) := by decide +kernel
theorem dX2_rename_8 : decode cX2_rename 8 = .ok (.invokevirtual 103, 3) := by decide +kernel
theorem dX2_rename_11 : decode cX2_rename 11 = .ok (.istore 4, 2) := by decide +kernel
theorem dX2_rename_13 : decode cX2_rename 13 = .ok (.iload_n 3, 1) := by decide +kernel
theorem dX2_rename_14 : decode cX2_rename 14 = .ok (.ifCond .ge 5, 3) := by decide +kernel
theorem dX2_rename_17 : decode cX2_rename 17 = .ok (.iload_n 3, 1) := by decide +kernel
theorem dX2_rename_18 : decode cX2_rename 18 = .ok (.ireturn, 1) := by decide +kernel
theorem dX2_rename_19 : decode cX2_rename 19 = .ok (.iload 4, 2) := by decide +kernel
theorem dX2_rename_21 : decode cX2_rename 21 = .ok (.ifCond .ge 6, 3) := by decide +kernel
theorem dX2_rename_24 : decode cX2_rename 24 = .ok (.iload 4, 2) := by decide +kernel
theorem dX2_rename_26 : decode cX2_rename 26 = .ok (.ireturn, 1) := by decide +kernel
theorem dX2_rename_27 : decode cX2_rename 27 = .ok (.aload_n 0, 1) := by decide +kernel
theorem dX2_rename_28 : decode cX2_rename 28 = .ok (.iload_n 3, 1) := by decide +kernel
theorem dX2_rename_29 : decode cX2_rename 29 = .ok (.invokevirtual 76, 3) := by decide +kernel
theorem dX2_rename_32 : decode cX2_rename 32 = .ok (.ifCond .ne 6, 3) := by decide +kernel
theorem dX2_rename_35 : decode cX2_rename 35 = .ok (.bipush (-3), 2) := by decide +kernel
theorem dX2_rename_37 : decode cX2_rename 37 = .ok (.ireturn, 1) := by decide +kernel
theorem dX2_rename_38 : decode cX2_rename 38 = .ok (.iload_n 3, 1) := by decide +kernel
theorem dX2_rename_39 : decode cX2_rename 39 = .ok (.iload 4, 2) := by decide +kernel
theorem dX2_rename_41 : decode cX2_rename 41 = .ok (.if_icmp .ne 5, 3) := by decide +kernel
theorem dX2_rename_44 : decode cX2_rename 44 = .ok (.iconst 0, 1) := by decide +kernel
theorem dX2_rename_45 : decode cX2_rename 45 = .ok (.ireturn, 1) := by decide +kernel
theorem dX2_rename_46 : decode cX2_rename 46 = .ok (.aload_n 0, 1) := by decide +kernel
theorem dX2_rename_47 : decode cX2_rename 47 = .ok (.iload_n 3, 1) := by decide +kernel
theorem dX2_rename_48 : decode cX2_rename 48 = .ok (.iload 4, 2) := by decide +kernel
theorem dX2_rename_50 : decode cX2_rename 50 = .ok (.invokevirtual 133, 3) := by decide +kernel
theorem dX2_rename_53 : decode cX2_rename 53 = .ok (.istore 5, 2) := by decide +kernel
theorem dX2_rename_55 : decode cX2_rename 55 = .ok (.iload 5, 2) := by decide +kernel
theorem dX2_rename_57 : decode cX2_rename 57 = .ok (.ifCond .eq 6, 3) := by decide +kernel
theorem dX2_rename_60 : decode cX2_rename 60 = .ok (.iload 5, 2) := by decide +kernel
theorem dX2_rename_62 : decode cX2_rename 62 = .ok (.ireturn, 1) := by decide +kernel
theorem dX2_rename_63 : decode cX2_rename 63 = .ok (.aload_n 0, 1) := by decide +kernel
theorem dX2_rename_64 : decode cX2_rename 64 = .ok (.iload_n 3, 1) := by decide +kernel
theorem dX2_rename_65 : decode cX2_rename 65 = .ok (.invokevirtual 136, 3) := by decide +kernel
theorem dX2_rename_68 : decode cX2_rename 68 = .ok (.iload 4, 2) := by decide +kernel
theorem dX2_rename_70 : decode cX2_rename 70 = .ok (.invokestatic 139, 3) := by decide +kernel
theorem dX2_rename_73 : decode cX2_rename 73 = .ok (.aload_n 0, 1) := by decide +kernel
theorem dX2_rename_74 : decode cX2_rename 74 = .ok (.invokevirtual 142, 3) := by decide +kernel
theorem dX2_rename_77 : decode cX2_rename 77 = .ok (.iadd, 1) := by decide +kernel
theorem dX2_rename_78 : decode cX2_rename 78 = .ok (.iconst 4, 1) := by decide +kernel
theorem dX2_rename_79 : decode cX2_rename 79 = .ok (.if_icmp .le 6, 3) := by decide +kernel
theorem dX2_rename_82 : decode cX2_rename 82 = .ok (.bipush (-10), 2) := by decide +kernel
theorem dX2_rename_84 : decode cX2_rename 84 = .ok (.ireturn, 1) := by decide +kernel
theorem dX2_rename_85 : decode cX2_rename 85 = .ok (.aload_n 0, 1) := by decide +kernel
theorem dX2_rename_86 : decode cX2_rename 86 = .ok (.invokevirtual 112, 3) := by decide +kernel
theorem dX2_rename_89 : decode cX2_rename 89 = .ok (.aload_n 0, 1) := by decide +kernel
theorem dX2_rename_90 : decode cX2_rename 90 = .ok (.iload 4, 2) := by decide +kernel
theorem dX2_rename_92 : decode cX2_rename 92 = .ok (.invokevirtual 145, 3) := by decide +kernel
theorem dX2_rename_95 : decode cX2_rename 95 = .ok (.aload_n 0, 1) := by decide +kernel
theorem dX2_rename_96 : decode cX2_rename 96 = .ok (.iload_n 3, 1) := by decide +kernel
theorem dX2_rename_97 : decode cX2_rename 97 = .ok (.invokevirtual 129, 3) := by decide +kernel
theorem dX2_rename_100 : decode cX2_rename 100 = .ok (.aload_n 0, 1) := by decide +kernel
theorem dX2_rename_101 : decode cX2_rename 101 = .ok (.invokevirtual 118, 3) := by decide +kernel
theorem dX2_rename_104 : decode cX2_rename 104 = .ok (.ireturn, 1) := by decide +kernel
theorem dX2_entry_0 : decode cX2_entry 0 = .ok (.iload_n 2, 1) := by decide +kernel
theorem dX2_entry_1 : decode cX2_entry 1 = .ok (.invokestatic 42, 3) := by decide +kernel
theorem dX2_entry_4 : decode cX2_entry 4 = .ok (.istore_n 3, 1) := by decide +kernel
theorem dX2_entry_5 : decode cX2_entry 5 = .ok (.aload_n 0, 1) := by decide +kernel
theorem dX2_entry_6 : decode cX2_entry 6 = .ok (.iload_n 1, 1) := by decide +kernel
theorem dX2_entry_7 : decode cX2_entry 7 = .ok (.invokevirtual 50, 3) := by decide +kernel
theorem dX2_entry_10 : decode cX2_entry 10 = .ok (.ifCond .eq 7, 3) := by decide +kernel
theorem dX2_entry_13 : decode cX2_entry 13 = .ok (.iload_n 3, 1) := by decide +kernel
theorem dX2_entry_14 : decode cX2_entry 14 = .ok (.ifCond .gt 6, 3) := by decide +kernel
theorem dX2_entry_17 : decode cX2_entry 17 = .ok (.bipush (-2), 2) := by decide +kernel
theorem dX2_entry_19 : decode cX2_entry 19 = .ok (.ireturn, 1) := by decide +kernel
theorem dX2_entry_20 : decode cX2_entry 20 = .ok (.aload_n 0, 1) := by decide +kernel
theorem dX2_entry_21 : decode cX2_entry 21 = .ok (.getfield 24, 3) := by decide +kernel
theorem dX2_entry_24 : decode cX2_entry 24 = .ok (.iload_n 1, 1) := by decide +kernel
theorem dX2_entry_25 : decode cX2_entry 25 = .ok (.aaload, 1) := by decide +kernel
theorem dX2_entry_26 : decode cX2_entry 26 = .ok (.iload_n 3, 1) := by decide +kernel
theorem dX2_entry_27 : decode cX2_entry 27 = .ok (.invokevirtual 54, 3) := by decide +kernel
theorem dX2_entry_30 : decode cX2_entry 30 = .ok (.ireturn, 1) := by decide +kernel
theorem dX2_entryValue_0 : decode cX2_entryValue 0 = .ok (.iload_n 2, 1) := by decide +kernel
theorem dX2_entryValue_1 : decode cX2_entryValue 1 = .ok (.invokestatic 42, 3) := by decide +kernel
theorem dX2_entryValue_4 : decode cX2_entryValue 4 = .ok (.istore_n 3, 1) := by decide +kernel
theorem dX2_entryValue_5 : decode cX2_entryValue 5 = .ok (.aload_n 0, 1) := by decide +kernel
theorem dX2_entryValue_6 : decode cX2_entryValue 6 = .ok (.iload_n 1, 1) := by decide +kernel
theorem dX2_entryValue_7 : decode cX2_entryValue 7 = .ok (.invokevirtual 50, 3) := by decide +kernel
theorem dX2_entryValue_10 : decode cX2_entryValue 10 = .ok (.ifCond .eq 7, 3) := by decide +kernel
theorem dX2_entryValue_13 : decode cX2_entryValue 13 = .ok (.iload_n 3, 1) := by decide +kernel
theorem dX2_entryValue_14 : decode cX2_entryValue 14 = .ok (.ifCond .gt 6, 3) := by decide +kernel
theorem dX2_entryValue_17 : decode cX2_entryValue 17 = .ok (.bipush (-2), 2) := by decide +kernel
theorem dX2_entryValue_19 : decode cX2_entryValue 19 = .ok (.ireturn, 1) := by decide +kernel
theorem dX2_entryValue_20 : decode cX2_entryValue 20 = .ok (.aload_n 0, 1) := by decide +kernel
theorem dX2_entryValue_21 : decode cX2_entryValue 21 = .ok (.getfield 24, 3) := by decide +kernel
theorem dX2_entryValue_24 : decode cX2_entryValue 24 = .ok (.iload_n 1, 1) := by decide +kernel
theorem dX2_entryValue_25 : decode cX2_entryValue 25 = .ok (.aaload, 1) := by decide +kernel
theorem dX2_entryValue_26 : decode cX2_entryValue 26 = .ok (.iload_n 3, 1) := by decide +kernel
theorem dX2_entryValue_27 : decode cX2_entryValue 27 = .ok (.invokevirtual 54, 3) := by decide +kernel
theorem dX2_entryValue_30 : decode cX2_entryValue 30 = .ok (.iconst 1, 1) := by decide +kernel
theorem dX2_entryValue_31 : decode cX2_entryValue 31 = .ok (.if_icmp .ne 16, 3) := by decide +kernel
theorem dX2_entryValue_34 : decode cX2_entryValue 34 = .ok (.aload_n 0, 1) := by decide +kernel
theorem dX2_entryValue_35 : decode cX2_entryValue 35 = .ok (.getfield 24, 3) := by decide +kernel
theorem dX2_entryValue_38 : decode cX2_entryValue 38 = .ok (.iload_n 1, 1) := by decide +kernel
theorem dX2_entryValue_39 : decode cX2_entryValue 39 = .ok (.aaload, 1) := by decide +kernel
theorem dX2_entryValue_40 : decode cX2_entryValue 40 = .ok (.iload_n 3, 1) := by decide +kernel
theorem dX2_entryValue_41 : decode cX2_entryValue 41 = .ok (.invokevirtual 85, 3) := by decide +kernel
theorem dX2_entryValue_44 : decode cX2_entryValue 44 = .ok (.goto 5, 3) := by decide +kernel
theorem dX2_entryValue_47 : decode cX2_entryValue 47 = .ok (.bipush (-3), 2) := by decide +kernel
theorem dX2_entryValue_49 : decode cX2_entryValue 49 = .ok (.ireturn, 1) := by decide +kernel
theorem dX2_entries_0 : decode cX2_entries 0 = .ok (.aload_n 0, 1) := by decide +kernel
theorem dX2_entries_1 : decode cX2_entries 1 = .ok (.iload_n 1, 1) := by decide +kernel
theorem dX2_entries_2 : decode cX2_entries 2 = .ok (.invokevirtual 50, 3) := by decide +kernel
theorem dX2_entries_5 : decode cX2_entries 5 = .ok (.ifCond .eq 15, 3) := by decide +kernel
theorem dX2_entries_8 : decode cX2_entries 8 = .ok (.aload_n 0, 1) := by decide +kernel
theorem dX2_entries_9 : decode cX2_entries 9 = .ok (.getfield 24, 3) := by decide +kernel
theorem dX2_entries_12 : decode cX2_entries 12 = .ok (.iload_n 1, 1) := by decide +kernel
theorem dX2_entries_13 : decode cX2_entries 13 = .ok (.aaload, 1) := by decide +kernel
theorem dX2_entries_14 : decode cX2_entries 14 = .ok (.invokevirtual 148, 3) := by decide +kernel
theorem dX2_entries_17 : decode cX2_entries 17 = .ok (.goto 5, 3) := by decide +kernel
theorem dX2_entries_20 : decode cX2_entries 20 = .ok (.bipush (-2), 2) := by decide +kernel
theorem dX2_entries_22 : decode cX2_entries 22 = .ok (.ireturn, 1) := by decide +kernel
theorem dX2_whiteouts_0 : decode cX2_whiteouts 0 = .ok (.aload_n 0, 1) := by decide +kernel
theorem dX2_whiteouts_1 : decode cX2_whiteouts 1 = .ok (.getfield 29, 3) := by decide +kernel
theorem dX2_whiteouts_4 : decode cX2_whiteouts 4 = .ok (.invokevirtual 151, 3) := by decide +kernel
theorem dX2_whiteouts_7 : decode cX2_whiteouts 7 = .ok (.ireturn, 1) := by decide +kernel
theorem dX2_copies_0 : decode cX2_copies 0 = .ok (.aload_n 0, 1) := by decide +kernel
theorem dX2_copies_1 : decode cX2_copies 1 = .ok (.getfield 122, 3) := by decide +kernel
theorem dX2_copies_4 : decode cX2_copies 4 = .ok (.ireturn, 1) := by decide +kernel
theorem dX2_placeOrRefusal_0 : decode cX2_placeOrRefusal 0 = .ok (.aload_n 0, 1) := by decide +kernel
theorem dX2_placeOrRefusal_1 : decode cX2_placeOrRefusal 1 = .ok (.getfield 46, 3) := by decide +kernel
theorem dX2_placeOrRefusal_4 : decode cX2_placeOrRefusal 4 = .ok (.ifCond .ne 5, 3) := by decide +kernel
theorem dX2_placeOrRefusal_7 : decode cX2_placeOrRefusal 7 = .ok (.iconst (-1), 1) := by decide +kernel
theorem dX2_placeOrRefusal_8 : decode cX2_placeOrRefusal 8 = .ok (.ireturn, 1) := by decide +kernel
theorem dX2_placeOrRefusal_9 : decode cX2_placeOrRefusal 9 = .ok (.iload_n 1, 1) := by decide +kernel
theorem dX2_placeOrRefusal_10 : decode cX2_placeOrRefusal 10 = .ok (.invokestatic 42, 3) := by decide +kernel
theorem dX2_placeOrRefusal_13 : decode cX2_placeOrRefusal 13 = .ok (.istore_n 2, 1) := by decide +kernel
theorem dX2_placeOrRefusal_14 : decode cX2_placeOrRefusal 14 = .ok (.iload_n 2, 1) := by decide +kernel
theorem dX2_placeOrRefusal_15 : decode cX2_placeOrRefusal 15 = .ok (.iconst (-1), 1) := by decide +kernel
theorem dX2_placeOrRefusal_16 : decode cX2_placeOrRefusal 16 = .ok (.if_icmp .ne 8, 3) := by decide +kernel
theorem dX2_placeOrRefusal_19 : decode cX2_placeOrRefusal 19 = .ok (.bipush (-2), 2) := by decide +kernel
theorem dX2_placeOrRefusal_21 : decode cX2_placeOrRefusal 21 = .ok (.goto 4, 3) := by decide +kernel
theorem dX2_placeOrRefusal_24 : decode cX2_placeOrRefusal 24 = .ok (.iload_n 2, 1) := by decide +kernel
theorem dX2_placeOrRefusal_25 : decode cX2_placeOrRefusal 25 = .ok (.ireturn, 1) := by decide +kernel
theorem dX2_objectPlaceOrRefusal_0 : decode cX2_objectPlaceOrRefusal 0 = .ok (.aload_n 0, 1) := by decide +kernel
theorem dX2_objectPlaceOrRefusal_1 : decode cX2_objectPlaceOrRefusal 1 = .ok (.iload_n 1, 1) := by decide +kernel
theorem dX2_objectPlaceOrRefusal_2 : decode cX2_objectPlaceOrRefusal 2 = .ok (.invokevirtual 73, 3) := by decide +kernel
theorem dX2_objectPlaceOrRefusal_5 : decode cX2_objectPlaceOrRefusal 5 = .ok (.istore_n 2, 1) := by decide +kernel
theorem dX2_objectPlaceOrRefusal_6 : decode cX2_objectPlaceOrRefusal 6 = .ok (.iload_n 2, 1) := by decide +kernel
theorem dX2_objectPlaceOrRefusal_7 : decode cX2_objectPlaceOrRefusal 7 = .ok (.ifCond .ne 8, 3) := by decide +kernel
theorem dX2_objectPlaceOrRefusal_10 : decode cX2_objectPlaceOrRefusal 10 = .ok (.bipush (-2), 2) := by decide +kernel
theorem dX2_objectPlaceOrRefusal_12 : decode cX2_objectPlaceOrRefusal 12 = .ok (.goto 4, 3) := by decide +kernel
theorem dX2_objectPlaceOrRefusal_15 : decode cX2_objectPlaceOrRefusal 15 = .ok (.iload_n 2, 1) := by decide +kernel
theorem dX2_objectPlaceOrRefusal_16 : decode cX2_objectPlaceOrRefusal 16 = .ok (.ireturn, 1) := by decide +kernel
theorem dX2_directoryPlaceOrRefusal_0 : decode cX2_directoryPlaceOrRefusal 0 = .ok (.aload_n 0, 1) := by decide +kernel
theorem dX2_directoryPlaceOrRefusal_1 : decode cX2_directoryPlaceOrRefusal 1 = .ok (.iload_n 1, 1) := by decide +kernel
theorem dX2_directoryPlaceOrRefusal_2 : decode cX2_directoryPlaceOrRefusal 2 = .ok (.invokevirtual 73, 3) := by decide +kernel
theorem dX2_directoryPlaceOrRefusal_5 : decode cX2_directoryPlaceOrRefusal 5 = .ok (.istore_n 2, 1) := by decide +kernel
theorem dX2_directoryPlaceOrRefusal_6 : decode cX2_directoryPlaceOrRefusal 6 = .ok (.iload_n 2, 1) := by decide +kernel
theorem dX2_directoryPlaceOrRefusal_7 : decode cX2_directoryPlaceOrRefusal 7 = .ok (.ifCond .ge 5, 3) := by decide +kernel
theorem dX2_directoryPlaceOrRefusal_10 : decode cX2_directoryPlaceOrRefusal 10 = .ok (.iload_n 2, 1) := by decide +kernel
theorem dX2_directoryPlaceOrRefusal_11 : decode cX2_directoryPlaceOrRefusal 11 = .ok (.ireturn, 1) := by decide +kernel
theorem dX2_directoryPlaceOrRefusal_12 : decode cX2_directoryPlaceOrRefusal 12 = .ok (.aload_n 0, 1) := by decide +kernel
theorem dX2_directoryPlaceOrRefusal_13 : decode cX2_directoryPlaceOrRefusal 13 = .ok (.iload_n 2, 1) := by decide +kernel
theorem dX2_directoryPlaceOrRefusal_14 : decode cX2_directoryPlaceOrRefusal 14 = .ok (.invokevirtual 76, 3) := by decide +kernel
theorem dX2_directoryPlaceOrRefusal_17 : decode cX2_directoryPlaceOrRefusal 17 = .ok (.istore_n 3, 1) := by decide +kernel
theorem dX2_directoryPlaceOrRefusal_18 : decode cX2_directoryPlaceOrRefusal 18 = .ok (.iload_n 3, 1) := by decide +kernel
theorem dX2_directoryPlaceOrRefusal_19 : decode cX2_directoryPlaceOrRefusal 19 = .ok (.ifCond .ne 6, 3) := by decide +kernel
theorem dX2_directoryPlaceOrRefusal_22 : decode cX2_directoryPlaceOrRefusal 22 = .ok (.bipush (-3), 2) := by decide +kernel
theorem dX2_directoryPlaceOrRefusal_24 : decode cX2_directoryPlaceOrRefusal 24 = .ok (.ireturn, 1) := by decide +kernel
theorem dX2_directoryPlaceOrRefusal_25 : decode cX2_directoryPlaceOrRefusal 25 = .ok (.iload_n 3, 1) := by decide +kernel
theorem dX2_directoryPlaceOrRefusal_26 : decode cX2_directoryPlaceOrRefusal 26 = .ok (.invokestatic 79, 3) := by decide +kernel
theorem dX2_directoryPlaceOrRefusal_29 : decode cX2_directoryPlaceOrRefusal 29 = .ok (.ifCond .eq 8, 3) := by decide +kernel
theorem dX2_directoryPlaceOrRefusal_32 : decode cX2_directoryPlaceOrRefusal 32 = .ok (.bipush (-7), 2) := by decide +kernel
theorem dX2_directoryPlaceOrRefusal_34 : decode cX2_directoryPlaceOrRefusal 34 = .ok (.goto 4, 3) := by decide +kernel
theorem dX2_directoryPlaceOrRefusal_37 : decode cX2_directoryPlaceOrRefusal 37 = .ok (.iload_n 2, 1) := by decide +kernel
theorem dX2_directoryPlaceOrRefusal_38 : decode cX2_directoryPlaceOrRefusal 38 = .ok (.ireturn, 1) := by decide +kernel
theorem dX2_isLayer_0 : decode cX2_isLayer 0 = .ok (.iload_n 1, 1) := by decide +kernel
theorem dX2_isLayer_1 : decode cX2_isLayer 1 = .ok (.ifCond .lt 15, 3) := by decide +kernel
theorem dX2_isLayer_4 : decode cX2_isLayer 4 = .ok (.iload_n 1, 1) := by decide +kernel
theorem dX2_isLayer_5 : decode cX2_isLayer 5 = .ok (.aload_n 0, 1) := by decide +kernel
theorem dX2_isLayer_6 : decode cX2_isLayer 6 = .ok (.getfield 18, 3) := by decide +kernel
theorem dX2_isLayer_9 : decode cX2_isLayer 9 = .ok (.if_icmp .gt 7, 3) := by decide +kernel
theorem dX2_isLayer_12 : decode cX2_isLayer 12 = .ok (.iconst 1, 1) := by decide +kernel
theorem dX2_isLayer_13 : decode cX2_isLayer 13 = .ok (.goto 4, 3) := by decide +kernel
theorem dX2_isLayer_16 : decode cX2_isLayer 16 = .ok (.iconst 0, 1) := by decide +kernel
theorem dX2_isLayer_17 : decode cX2_isLayer 17 = .ok (.ireturn, 1) := by decide +kernel
theorem dX2_hasRoomIn_0 : decode cX2_hasRoomIn 0 = .ok (.iload_n 1, 1) := by decide +kernel
theorem dX2_hasRoomIn_1 : decode cX2_hasRoomIn 1 = .ok (.aload_n 0, 1) := by decide +kernel
theorem dX2_hasRoomIn_2 : decode cX2_hasRoomIn 2 = .ok (.getfield 18, 3) := by decide +kernel
theorem dX2_hasRoomIn_5 : decode cX2_hasRoomIn 5 = .ok (.if_icmp .ne 21, 3) := by decide +kernel
theorem dX2_hasRoomIn_8 : decode cX2_hasRoomIn 8 = .ok (.aload_n 0, 1) := by decide +kernel
theorem dX2_hasRoomIn_9 : decode cX2_hasRoomIn 9 = .ok (.getfield 29, 3) := by decide +kernel
theorem dX2_hasRoomIn_12 : decode cX2_hasRoomIn 12 = .ok (.invokevirtual 148, 3) := by decide +kernel
theorem dX2_hasRoomIn_15 : decode cX2_hasRoomIn 15 = .ok (.bipush 30, 2) := by decide +kernel
theorem dX2_hasRoomIn_17 : decode cX2_hasRoomIn 17 = .ok (.if_icmp .ge 7, 3) := by decide +kernel
theorem dX2_hasRoomIn_20 : decode cX2_hasRoomIn 20 = .ok (.iconst 1, 1) := by decide +kernel
theorem dX2_hasRoomIn_21 : decode cX2_hasRoomIn 21 = .ok (.goto 4, 3) := by decide +kernel
theorem dX2_hasRoomIn_24 : decode cX2_hasRoomIn 24 = .ok (.iconst 0, 1) := by decide +kernel
theorem dX2_hasRoomIn_25 : decode cX2_hasRoomIn 25 = .ok (.ireturn, 1) := by decide +kernel
theorem dX2_hasRoomIn_26 : decode cX2_hasRoomIn 26 = .ok (.iconst 0, 1) := by decide +kernel
theorem dX2_hasRoomIn_27 : decode cX2_hasRoomIn 27 = .ok (.istore_n 2, 1) := by decide +kernel
theorem dX2_hasRoomIn_28 : decode cX2_hasRoomIn 28 = .ok (.iconst 0, 1) := by decide +kernel
theorem dX2_hasRoomIn_29 : decode cX2_hasRoomIn 29 = .ok (.istore_n 3, 1) := by decide +kernel
theorem dX2_hasRoomIn_30 : decode cX2_hasRoomIn 30 = .ok (.iload_n 3, 1) := by decide +kernel
theorem dX2_hasRoomIn_31 : decode cX2_hasRoomIn 31 = .ok (.aload_n 0, 1) := by decide +kernel
theorem dX2_hasRoomIn_32 : decode cX2_hasRoomIn 32 = .ok (.getfield 18, 3) := by decide +kernel
theorem dX2_hasRoomIn_35 : decode cX2_hasRoomIn 35 = .ok (.if_icmp .ge 21, 3) := by decide +kernel
theorem dX2_hasRoomIn_38 : decode cX2_hasRoomIn 38 = .ok (.iload_n 2, 1) := by decide +kernel
theorem dX2_hasRoomIn_39 : decode cX2_hasRoomIn 39 = .ok (.aload_n 0, 1) := by decide +kernel
theorem dX2_hasRoomIn_40 : decode cX2_hasRoomIn 40 = .ok (.getfield 24, 3) := by decide +kernel
theorem dX2_hasRoomIn_43 : decode cX2_hasRoomIn 43 = .ok (.iload_n 3, 1) := by decide +kernel
theorem dX2_hasRoomIn_44 : decode cX2_hasRoomIn 44 = .ok (.aaload, 1) := by decide +kernel
theorem dX2_hasRoomIn_45 : decode cX2_hasRoomIn 45 = .ok (.invokevirtual 148, 3) := by decide +kernel
theorem dX2_hasRoomIn_48 : decode cX2_hasRoomIn 48 = .ok (.iadd, 1) := by decide +kernel
theorem dX2_hasRoomIn_49 : decode cX2_hasRoomIn 49 = .ok (.istore_n 2, 1) := by decide +kernel
theorem dX2_hasRoomIn_50 : decode cX2_hasRoomIn 50 = .ok (.iinc 3 1, 3) := by decide +kernel
theorem dX2_hasRoomIn_53 : decode cX2_hasRoomIn 53 = .ok (.goto (-23), 3) := by decide +kernel
theorem dX2_hasRoomIn_56 : decode cX2_hasRoomIn 56 = .ok (.iload_n 2, 1) := by decide +kernel
theorem dX2_hasRoomIn_57 : decode cX2_hasRoomIn 57 = .ok (.bipush 60, 2) := by decide +kernel
theorem dX2_hasRoomIn_59 : decode cX2_hasRoomIn 59 = .ok (.if_icmp .ge 7, 3) := by decide +kernel
theorem dX2_hasRoomIn_62 : decode cX2_hasRoomIn 62 = .ok (.iconst 1, 1) := by decide +kernel
theorem dX2_hasRoomIn_63 : decode cX2_hasRoomIn 63 = .ok (.goto 4, 3) := by decide +kernel
theorem dX2_hasRoomIn_66 : decode cX2_hasRoomIn 66 = .ok (.iconst 0, 1) := by decide +kernel
theorem dX2_hasRoomIn_67 : decode cX2_hasRoomIn 67 = .ok (.ireturn, 1) := by decide +kernel
theorem dX2_isDirectory_0 : decode cX2_isDirectory 0 = .ok (.iload_n 0, 1) := by decide +kernel
theorem dX2_isDirectory_1 : decode cX2_isDirectory 1 = .ok (.ifCond .le 7, 3) := by decide +kernel
theorem dX2_isDirectory_4 : decode cX2_isDirectory 4 = .ok (.iconst 1, 1) := by decide +kernel
theorem dX2_isDirectory_5 : decode cX2_isDirectory 5 = .ok (.goto 4, 3) := by decide +kernel
theorem dX2_isDirectory_8 : decode cX2_isDirectory 8 = .ok (.iconst 0, 1) := by decide +kernel
theorem dX2_isDirectory_9 : decode cX2_isDirectory 9 = .ok (.ireturn, 1) := by decide +kernel
theorem dX2_isFile_0 : decode cX2_isFile 0 = .ok (.iload_n 0, 1) := by decide +kernel
theorem dX2_isFile_1 : decode cX2_isFile 1 = .ok (.ifCond .ge 7, 3) := by decide +kernel
theorem dX2_isFile_4 : decode cX2_isFile 4 = .ok (.iconst 1, 1) := by decide +kernel
theorem dX2_isFile_5 : decode cX2_isFile 5 = .ok (.goto 4, 3) := by decide +kernel
theorem dX2_isFile_8 : decode cX2_isFile 8 = .ok (.iconst 0, 1) := by decide +kernel
theorem dX2_isFile_9 : decode cX2_isFile 9 = .ok (.ireturn, 1) := by decide +kernel
theorem dX2_foundFile_0 : decode cX2_foundFile 0 = .ok (.iload_n 0, 1) := by decide +kernel
theorem dX2_foundFile_1 : decode cX2_foundFile 1 = .ok (.iconst (-1), 1) := by decide +kernel
theorem dX2_foundFile_2 : decode cX2_foundFile 2 = .ok (.ixor, 1) := by decide +kernel
theorem dX2_foundFile_3 : decode cX2_foundFile 3 = .ok (.ireturn, 1) := by decide +kernel
theorem dX2_layerOfFile_0 : decode cX2_layerOfFile 0 = .ok (.iload_n 0, 1) := by decide +kernel
theorem dX2_layerOfFile_1 : decode cX2_layerOfFile 1 = .ok (.iconst (-1), 1) := by decide +kernel
theorem dX2_layerOfFile_2 : decode cX2_layerOfFile 2 = .ok (.ixor, 1) := by decide +kernel
theorem dX2_layerOfFile_3 : decode cX2_layerOfFile 3 = .ok (.ireturn, 1) := by decide +kernel
theorem dX2_originOf_0 : decode cX2_originOf 0 = .ok (.iload_n 1, 1) := by decide +kernel
theorem dX2_originOf_1 : decode cX2_originOf 1 = .ok (.invokestatic 79, 3) := by decide +kernel
theorem dX2_originOf_4 : decode cX2_originOf 4 = .ok (.ifCond .eq 8, 3) := by decide +kernel
theorem dX2_originOf_7 : decode cX2_originOf 7 = .ok (.iload_n 1, 1) := by decide +kernel
theorem dX2_originOf_8 : decode cX2_originOf 8 = .ok (.invokestatic 82, 3) := by decide +kernel
theorem dX2_originOf_11 : decode cX2_originOf 11 = .ok (.ireturn, 1) := by decide +kernel
theorem dX2_originOf_12 : decode cX2_originOf 12 = .ok (.aload_n 0, 1) := by decide +kernel
theorem dX2_originOf_13 : decode cX2_originOf 13 = .ok (.getfield 18, 3) := by decide +kernel
theorem dX2_originOf_16 : decode cX2_originOf 16 = .ok (.istore_n 2, 1) := by decide +kernel
theorem dX2_originOf_17 : decode cX2_originOf 17 = .ok (.iload_n 2, 1) := by decide +kernel
theorem dX2_originOf_18 : decode cX2_originOf 18 = .ok (.ifCond .le 17, 3) := by decide +kernel
theorem dX2_originOf_21 : decode cX2_originOf 21 = .ok (.iload_n 2, 1) := by decide +kernel
theorem dX2_originOf_22 : decode cX2_originOf 22 = .ok (.iload_n 1, 1) := by decide +kernel
theorem dX2_originOf_23 : decode cX2_originOf 23 = .ok (.invokestatic 154, 3) := by decide +kernel
theorem dX2_originOf_26 : decode cX2_originOf 26 = .ok (.ifCond .ne 9, 3) := by decide +kernel
theorem dX2_originOf_29 : decode cX2_originOf 29 = .ok (.iinc 2 (-1), 3) := by decide +kernel
theorem dX2_originOf_32 : decode cX2_originOf 32 = .ok (.goto (-15), 3) := by decide +kernel
theorem dX2_originOf_35 : decode cX2_originOf 35 = .ok (.iload_n 2, 1) := by decide +kernel
theorem dX2_originOf_36 : decode cX2_originOf 36 = .ok (.ireturn, 1) := by decide +kernel
theorem dX2_isPart_0 : decode cX2_isPart 0 = .ok (.iload_n 1, 1) := by decide +kernel
theorem dX2_isPart_1 : decode cX2_isPart 1 = .ok (.iload_n 0, 1) := by decide +kernel
theorem dX2_isPart_2 : decode cX2_isPart 2 = .ok (.ishr, 1) := by decide +kernel
theorem dX2_isPart_3 : decode cX2_isPart 3 = .ok (.iconst 1, 1) := by decide +kernel
theorem dX2_isPart_4 : decode cX2_isPart 4 = .ok (.iand, 1) := by decide +kernel
theorem dX2_isPart_5 : decode cX2_isPart 5 = .ok (.iconst 1, 1) := by decide +kernel
theorem dX2_isPart_6 : decode cX2_isPart 6 = .ok (.if_icmp .ne 7, 3) := by decide +kernel
theorem dX2_isPart_9 : decode cX2_isPart 9 = .ok (.iconst 1, 1) := by decide +kernel
theorem dX2_isPart_10 : decode cX2_isPart 10 = .ok (.goto 4, 3) := by decide +kernel
theorem dX2_isPart_13 : decode cX2_isPart 13 = .ok (.iconst 0, 1) := by decide +kernel
theorem dX2_isPart_14 : decode cX2_isPart 14 = .ok (.ireturn, 1) := by decide +kernel
theorem dX2_partOf_0 : decode cX2_partOf 0 = .ok (.iconst 1, 1) := by decide +kernel
theorem dX2_partOf_1 : decode cX2_partOf 1 = .ok (.iload_n 0, 1) := by decide +kernel
theorem dX2_partOf_2 : decode cX2_partOf 2 = .ok (.ishl, 1) := by decide +kernel
theorem dX2_partOf_3 : decode cX2_partOf 3 = .ok (.ireturn, 1) := by decide +kernel
theorem dX2_allParts_0 : decode cX2_allParts 0 = .ok (.aload_n 0, 1) := by decide +kernel
theorem dX2_allParts_1 : decode cX2_allParts 1 = .ok (.getfield 18, 3) := by decide +kernel
theorem dX2_allParts_4 : decode cX2_allParts 4 = .ok (.iconst 1, 1) := by decide +kernel
theorem dX2_allParts_5 : decode cX2_allParts 5 = .ok (.iadd, 1) := by decide +kernel
theorem dX2_allParts_6 : decode cX2_allParts 6 = .ok (.invokestatic 157, 3) := by decide +kernel
theorem dX2_allParts_9 : decode cX2_allParts 9 = .ok (.iconst 1, 1) := by decide +kernel
theorem dX2_allParts_10 : decode cX2_allParts 10 = .ok (.isub, 1) := by decide +kernel
theorem dX2_allParts_11 : decode cX2_allParts 11 = .ok (.ireturn, 1) := by decide +kernel
theorem dX2_find_0 : decode cX2_find 0 = .ok (.aload_n 0, 1) := by decide +kernel
theorem dX2_find_1 : decode cX2_find 1 = .ok (.invokevirtual 160, 3) := by decide +kernel
theorem dX2_find_4 : decode cX2_find 4 = .ok (.istore_n 2, 1) := by decide +kernel
theorem dX2_find_5 : decode cX2_find 5 = .ok (.iload_n 1, 1) := by decide +kernel
theorem dX2_find_6 : decode cX2_find 6 = .ok (.invokestatic 139, 3) := by decide +kernel
theorem dX2_find_9 : decode cX2_find 9 = .ok (.iconst 1, 1) := by decide +kernel
theorem dX2_find_10 : decode cX2_find 10 = .ok (.isub, 1) := by decide +kernel
theorem dX2_find_11 : decode cX2_find 11 = .ok (.istore_n 3, 1) := by decide +kernel
theorem dX2_find_12 : decode cX2_find 12 = .ok (.iload_n 3, 1) := by decide +kernel
theorem dX2_find_13 : decode cX2_find 13 = .ok (.ifCond .lt 29, 3) := by decide +kernel
theorem dX2_find_16 : decode cX2_find 16 = .ok (.iload_n 2, 1) := by decide +kernel
theorem dX2_find_17 : decode cX2_find 17 = .ok (.invokestatic 109, 3) := by decide +kernel
theorem dX2_find_20 : decode cX2_find 20 = .ok (.ifCond .ne 5, 3) := by decide +kernel
theorem dX2_find_23 : decode cX2_find 23 = .ok (.iconst 0, 1) := by decide +kernel
theorem dX2_find_24 : decode cX2_find 24 = .ok (.ireturn, 1) := by decide +kernel
theorem dX2_find_25 : decode cX2_find 25 = .ok (.aload_n 0, 1) := by decide +kernel
theorem dX2_find_26 : decode cX2_find 26 = .ok (.iload_n 2, 1) := by decide +kernel
theorem dX2_find_27 : decode cX2_find 27 = .ok (.iload_n 1, 1) := by decide +kernel
theorem dX2_find_28 : decode cX2_find 28 = .ok (.iload_n 3, 1) := by decide +kernel
theorem dX2_find_29 : decode cX2_find 29 = .ok (.invokestatic 163, 3) := by decide +kernel
theorem dX2_find_32 : decode cX2_find 32 = .ok (.invokevirtual 97, 3) := by decide +kernel
theorem dX2_find_35 : decode cX2_find 35 = .ok (.istore_n 2, 1) := by decide +kernel
theorem dX2_find_36 : decode cX2_find 36 = .ok (.iinc 3 (-1), 3) := by decide +kernel
theorem dX2_find_39 : decode cX2_find 39 = .ok (.goto (-27), 3) := by decide +kernel
theorem dX2_find_42 : decode cX2_find 42 = .ok (.iload_n 2, 1) := by decide +kernel
theorem dX2_find_43 : decode cX2_find 43 = .ok (.ireturn, 1) := by decide +kernel
theorem dX2_findAmong_0 : decode cX2_findAmong 0 = .ok (.iconst 0, 1) := by decide +kernel
theorem dX2_findAmong_1 : decode cX2_findAmong 1 = .ok (.istore_n 3, 1) := by decide +kernel
theorem dX2_findAmong_2 : decode cX2_findAmong 2 = .ok (.aload_n 0, 1) := by decide +kernel
theorem dX2_findAmong_3 : decode cX2_findAmong 3 = .ok (.getfield 18, 3) := by decide +kernel
theorem dX2_findAmong_6 : decode cX2_findAmong 6 = .ok (.istore 4, 2) := by decide +kernel
theorem dX2_findAmong_8 : decode cX2_findAmong 8 = .ok (.iload 4, 2) := by decide +kernel
theorem dX2_findAmong_10 : decode cX2_findAmong 10 = .ok (.ifCond .lt 87, 3) := by decide +kernel
theorem dX2_findAmong_13 : decode cX2_findAmong 13 = .ok (.iload 4, 2) := by decide +kernel
theorem dX2_findAmong_15 : decode cX2_findAmong 15 = .ok (.iload_n 1, 1) := by decide +kernel
theorem dX2_findAmong_16 : decode cX2_findAmong 16 = .ok (.invokestatic 154, 3) := by decide +kernel
theorem dX2_findAmong_19 : decode cX2_findAmong 19 = .ok (.ifCond .eq 72, 3) := by decide +kernel
theorem dX2_findAmong_22 : decode cX2_findAmong 22 = .ok (.aload_n 0, 1) := by decide +kernel
theorem dX2_findAmong_23 : decode cX2_findAmong 23 = .ok (.getfield 24, 3) := by decide +kernel
theorem dX2_findAmong_26 : decode cX2_findAmong 26 = .ok (.iload 4, 2) := by decide +kernel
theorem dX2_findAmong_28 : decode cX2_findAmong 28 = .ok (.aaload, 1) := by decide +kernel
theorem dX2_findAmong_29 : decode cX2_findAmong 29 = .ok (.iload_n 2, 1) := by decide +kernel
theorem dX2_findAmong_30 : decode cX2_findAmong 30 = .ok (.invokevirtual 54, 3) := by decide +kernel
theorem dX2_findAmong_33 : decode cX2_findAmong 33 = .ok (.istore 5, 2) := by decide +kernel
theorem dX2_findAmong_35 : decode cX2_findAmong 35 = .ok (.iload 5, 2) := by decide +kernel
theorem dX2_findAmong_37 : decode cX2_findAmong 37 = .ok (.iconst 1, 1) := by decide +kernel
theorem dX2_findAmong_38 : decode cX2_findAmong 38 = .ok (.if_icmp .ne 17, 3) := by decide +kernel
theorem dX2_findAmong_41 : decode cX2_findAmong 41 = .ok (.iload_n 3, 1) := by decide +kernel
theorem dX2_findAmong_42 : decode cX2_findAmong 42 = .ok (.ifCond .ne 11, 3) := by decide +kernel
theorem dX2_findAmong_45 : decode cX2_findAmong 45 = .ok (.iload 4, 2) := by decide +kernel
theorem dX2_findAmong_47 : decode cX2_findAmong 47 = .ok (.invokestatic 166, 3) := by decide +kernel
theorem dX2_findAmong_50 : decode cX2_findAmong 50 = .ok (.goto 4, 3) := by decide +kernel
theorem dX2_findAmong_53 : decode cX2_findAmong 53 = .ok (.iload_n 3, 1) := by decide +kernel
theorem dX2_findAmong_54 : decode cX2_findAmong 54 = .ok (.ireturn, 1) := by decide +kernel
theorem dX2_findAmong_55 : decode cX2_findAmong 55 = .ok (.iload 5, 2) := by decide +kernel
theorem dX2_findAmong_57 : decode cX2_findAmong 57 = .ok (.iconst 4, 1) := by decide +kernel
theorem dX2_findAmong_58 : decode cX2_findAmong 58 = .ok (.if_icmp .ne 5, 3) := by decide +kernel
theorem dX2_findAmong_61 : decode cX2_findAmong 61 = .ok (.iload_n 3, 1) := by decide +kernel
theorem dX2_findAmong_62 : decode cX2_findAmong 62 = .ok (.ireturn, 1) := by decide +kernel
theorem dX2_findAmong_63 : decode cX2_findAmong 63 = .ok (.iload 5, 2) := by decide +kernel
theorem dX2_findAmong_65 : decode cX2_findAmong 65 = .ok (.iconst 3, 1) := by decide +kernel
theorem dX2_findAmong_66 : decode cX2_findAmong 66 = .ok (.if_icmp .ne 11, 3) := by decide +kernel
theorem dX2_findAmong_69 : decode cX2_findAmong 69 = .ok (.iload_n 3, 1) := by decide +kernel
theorem dX2_findAmong_70 : decode cX2_findAmong 70 = .ok (.iload 4, 2) := by decide +kernel
theorem dX2_findAmong_72 : decode cX2_findAmong 72 = .ok (.invokestatic 157, 3) := by decide +kernel
theorem dX2_findAmong_75 : decode cX2_findAmong 75 = .ok (.ior, 1) := by decide +kernel
theorem dX2_findAmong_76 : decode cX2_findAmong 76 = .ok (.ireturn, 1) := by decide +kernel
theorem dX2_findAmong_77 : decode cX2_findAmong 77 = .ok (.iload 5, 2) := by decide +kernel
theorem dX2_findAmong_79 : decode cX2_findAmong 79 = .ok (.iconst 2, 1) := by decide +kernel
theorem dX2_findAmong_80 : decode cX2_findAmong 80 = .ok (.if_icmp .ne 11, 3) := by decide +kernel
theorem dX2_findAmong_83 : decode cX2_findAmong 83 = .ok (.iload_n 3, 1) := by decide +kernel
theorem dX2_findAmong_84 : decode cX2_findAmong 84 = .ok (.iload 4, 2) := by decide +kernel
theorem dX2_findAmong_86 : decode cX2_findAmong 86 = .ok (.invokestatic 157, 3) := by decide +kernel
theorem dX2_findAmong_89 : decode cX2_findAmong 89 = .ok (.ior, 1) := by decide +kernel
theorem dX2_findAmong_90 : decode cX2_findAmong 90 = .ok (.istore_n 3, 1) := by decide +kernel
theorem dX2_findAmong_91 : decode cX2_findAmong 91 = .ok (.iinc 4 (-1), 3) := by decide +kernel
theorem dX2_findAmong_94 : decode cX2_findAmong 94 = .ok (.goto (-86), 3) := by decide +kernel
theorem dX2_findAmong_97 : decode cX2_findAmong 97 = .ok (.iload_n 3, 1) := by decide +kernel
theorem dX2_findAmong_98 : decode cX2_findAmong 98 = .ok (.ireturn, 1) := by decide +kernel
theorem dX2_isCovered_0 : decode cX2_isCovered 0 = .ok (.aload_n 0, 1) := by decide +kernel
theorem dX2_isCovered_1 : decode cX2_isCovered 1 = .ok (.iload_n 1, 1) := by decide +kernel
theorem dX2_isCovered_2 : decode cX2_isCovered 2 = .ok (.invokestatic 57, 3) := by decide +kernel
theorem dX2_isCovered_5 : decode cX2_isCovered 5 = .ok (.invokevirtual 76, 3) := by decide +kernel
theorem dX2_isCovered_8 : decode cX2_isCovered 8 = .ok (.istore_n 2, 1) := by decide +kernel
theorem dX2_isCovered_9 : decode cX2_isCovered 9 = .ok (.iload_n 2, 1) := by decide +kernel
theorem dX2_isCovered_10 : decode cX2_isCovered 10 = .ok (.invokestatic 109, 3) := by decide +kernel
theorem dX2_isCovered_13 : decode cX2_isCovered 13 = .ok (.ifCond .eq 26, 3) := by decide +kernel
theorem dX2_isCovered_16 : decode cX2_isCovered 16 = .ok (.aload_n 0, 1) := by decide +kernel
theorem dX2_isCovered_17 : decode cX2_isCovered 17 = .ok (.iload_n 2, 1) := by decide +kernel
theorem dX2_isCovered_18 : decode cX2_isCovered 18 = .ok (.aload_n 0, 1) := by decide +kernel
theorem dX2_isCovered_19 : decode cX2_isCovered 19 = .ok (.getfield 18, 3) := by decide +kernel
theorem dX2_isCovered_22 : decode cX2_isCovered 22 = .ok (.invokestatic 157, 3) := by decide +kernel
theorem dX2_isCovered_25 : decode cX2_isCovered 25 = .ok (.iconst (-1), 1) := by decide +kernel
theorem dX2_isCovered_26 : decode cX2_isCovered 26 = .ok (.ixor, 1) := by decide +kernel
theorem dX2_isCovered_27 : decode cX2_isCovered 27 = .ok (.iand, 1) := by decide +kernel
theorem dX2_isCovered_28 : decode cX2_isCovered 28 = .ok (.iload_n 1, 1) := by decide +kernel
theorem dX2_isCovered_29 : decode cX2_isCovered 29 = .ok (.invokevirtual 97, 3) := by decide +kernel
theorem dX2_isCovered_32 : decode cX2_isCovered 32 = .ok (.ifCond .eq 7, 3) := by decide +kernel
theorem dX2_isCovered_35 : decode cX2_isCovered 35 = .ok (.iconst 1, 1) := by decide +kernel
theorem dX2_isCovered_36 : decode cX2_isCovered 36 = .ok (.goto 4, 3) := by decide +kernel
theorem dX2_isCovered_39 : decode cX2_isCovered 39 = .ok (.iconst 0, 1) := by decide +kernel
theorem dX2_isCovered_40 : decode cX2_isCovered 40 = .ok (.ireturn, 1) := by decide +kernel
theorem dX2_countIn_0 : decode cX2_countIn 0 = .ok (.iconst 0, 1) := by decide +kernel
theorem dX2_countIn_1 : decode cX2_countIn 1 = .ok (.istore_n 3, 1) := by decide +kernel
theorem dX2_countIn_2 : decode cX2_countIn 2 = .ok (.iconst 1, 1) := by decide +kernel
theorem dX2_countIn_3 : decode cX2_countIn 3 = .ok (.istore 4, 2) := by decide +kernel
theorem dX2_countIn_5 : decode cX2_countIn 5 = .ok (.iload 4, 2) := by decide +kernel
theorem dX2_countIn_7 : decode cX2_countIn 7 = .ok (.iconst 5, 1) := by decide +kernel
theorem dX2_countIn_8 : decode cX2_countIn 8 = .ok (.if_icmp .gt 26, 3) := by decide +kernel
theorem dX2_countIn_11 : decode cX2_countIn 11 = .ok (.aload_n 0, 1) := by decide +kernel
theorem dX2_countIn_12 : decode cX2_countIn 12 = .ok (.iload_n 2, 1) := by decide +kernel
theorem dX2_countIn_13 : decode cX2_countIn 13 = .ok (.iload_n 1, 1) := by decide +kernel
theorem dX2_countIn_14 : decode cX2_countIn 14 = .ok (.iload 4, 2) := by decide +kernel
theorem dX2_countIn_16 : decode cX2_countIn 16 = .ok (.invokestatic 94, 3) := by decide +kernel
theorem dX2_countIn_19 : decode cX2_countIn 19 = .ok (.invokevirtual 97, 3) := by decide +kernel
theorem dX2_countIn_22 : decode cX2_countIn 22 = .ok (.ifCond .eq 6, 3) := by decide +kernel
theorem dX2_countIn_25 : decode cX2_countIn 25 = .ok (.iinc 3 1, 3) := by decide +kernel
theorem dX2_countIn_28 : decode cX2_countIn 28 = .ok (.iinc 4 1, 3) := by decide +kernel
theorem dX2_countIn_31 : decode cX2_countIn 31 = .ok (.goto (-26), 3) := by decide +kernel
theorem dX2_countIn_34 : decode cX2_countIn 34 = .ok (.iload_n 3, 1) := by decide +kernel
theorem dX2_countIn_35 : decode cX2_countIn 35 = .ok (.ireturn, 1) := by decide +kernel
theorem dX2_countBelow_0 : decode cX2_countBelow 0 = .ok (.iload_n 1, 1) := by decide +kernel
theorem dX2_countBelow_1 : decode cX2_countBelow 1 = .ok (.invokestatic 139, 3) := by decide +kernel
theorem dX2_countBelow_4 : decode cX2_countBelow 4 = .ok (.iconst 4, 1) := by decide +kernel
theorem dX2_countBelow_5 : decode cX2_countBelow 5 = .ok (.if_icmp .lt 5, 3) := by decide +kernel
theorem dX2_countBelow_8 : decode cX2_countBelow 8 = .ok (.iconst 0, 1) := by decide +kernel
theorem dX2_countBelow_9 : decode cX2_countBelow 9 = .ok (.ireturn, 1) := by decide +kernel
theorem dX2_countBelow_10 : decode cX2_countBelow 10 = .ok (.iconst 0, 1) := by decide +kernel
theorem dX2_countBelow_11 : decode cX2_countBelow 11 = .ok (.istore_n 3, 1) := by decide +kernel
theorem dX2_countBelow_12 : decode cX2_countBelow 12 = .ok (.iconst 1, 1) := by decide +kernel
theorem dX2_countBelow_13 : decode cX2_countBelow 13 = .ok (.istore 4, 2) := by decide +kernel
theorem dX2_countBelow_15 : decode cX2_countBelow 15 = .ok (.iload 4, 2) := by decide +kernel
theorem dX2_countBelow_17 : decode cX2_countBelow 17 = .ok (.iconst 5, 1) := by decide +kernel
theorem dX2_countBelow_18 : decode cX2_countBelow 18 = .ok (.if_icmp .gt 53, 3) := by decide +kernel
theorem dX2_countBelow_21 : decode cX2_countBelow 21 = .ok (.iload_n 1, 1) := by decide +kernel
theorem dX2_countBelow_22 : decode cX2_countBelow 22 = .ok (.iload 4, 2) := by decide +kernel
theorem dX2_countBelow_24 : decode cX2_countBelow 24 = .ok (.invokestatic 94, 3) := by decide +kernel
theorem dX2_countBelow_27 : decode cX2_countBelow 27 = .ok (.istore 5, 2) := by decide +kernel
theorem dX2_countBelow_29 : decode cX2_countBelow 29 = .ok (.aload_n 0, 1) := by decide +kernel
theorem dX2_countBelow_30 : decode cX2_countBelow 30 = .ok (.iload_n 2, 1) := by decide +kernel
theorem dX2_countBelow_31 : decode cX2_countBelow 31 = .ok (.iload 5, 2) := by decide +kernel
theorem dX2_countBelow_33 : decode cX2_countBelow 33 = .ok (.invokevirtual 97, 3) := by decide +kernel
theorem dX2_countBelow_36 : decode cX2_countBelow 36 = .ok (.istore 6, 2) := by decide +kernel
theorem dX2_countBelow_38 : decode cX2_countBelow 38 = .ok (.iload 6, 2) := by decide +kernel
theorem dX2_countBelow_40 : decode cX2_countBelow 40 = .ok (.ifCond .eq 6, 3) := by decide +kernel
theorem dX2_countBelow_43 : decode cX2_countBelow 43 = .ok (.iinc 3 1, 3) := by decide +kernel
theorem dX2_countBelow_46 : decode cX2_countBelow 46 = .ok (.iload 6, 2) := by decide +kernel
theorem dX2_countBelow_48 : decode cX2_countBelow 48 = .ok (.invokestatic 109, 3) := by decide +kernel
theorem dX2_countBelow_51 : decode cX2_countBelow 51 = .ok (.ifCond .eq 14, 3) := by decide +kernel
theorem dX2_countBelow_54 : decode cX2_countBelow 54 = .ok (.iload_n 3, 1) := by decide +kernel
theorem dX2_countBelow_55 : decode cX2_countBelow 55 = .ok (.aload_n 0, 1) := by decide +kernel
theorem dX2_countBelow_56 : decode cX2_countBelow 56 = .ok (.iload 5, 2) := by decide +kernel
theorem dX2_countBelow_58 : decode cX2_countBelow 58 = .ok (.iload 6, 2) := by decide +kernel
theorem dX2_countBelow_60 : decode cX2_countBelow 60 = .ok (.invokevirtual 100, 3) := by decide +kernel
theorem dX2_countBelow_63 : decode cX2_countBelow 63 = .ok (.iadd, 1) := by decide +kernel
theorem dX2_countBelow_64 : decode cX2_countBelow 64 = .ok (.istore_n 3, 1) := by decide +kernel
theorem dX2_countBelow_65 : decode cX2_countBelow 65 = .ok (.iinc 4 1, 3) := by decide +kernel
theorem dX2_countBelow_68 : decode cX2_countBelow 68 = .ok (.goto (-53), 3) := by decide +kernel
theorem dX2_countBelow_71 : decode cX2_countBelow 71 = .ok (.iload_n 3, 1) := by decide +kernel
theorem dX2_countBelow_72 : decode cX2_countBelow 72 = .ok (.ireturn, 1) := by decide +kernel
theorem dX2_isFilledDirectory_0 : decode cX2_isFilledDirectory 0 = .ok (.iload_n 2, 1) := by decide +kernel
theorem dX2_isFilledDirectory_1 : decode cX2_isFilledDirectory 1 = .ok (.invokestatic 109, 3) := by decide +kernel
theorem dX2_isFilledDirectory_4 : decode cX2_isFilledDirectory 4 = .ok (.ifCond .eq 16, 3) := by decide +kernel
theorem dX2_isFilledDirectory_7 : decode cX2_isFilledDirectory 7 = .ok (.aload_n 0, 1) := by decide +kernel
theorem dX2_isFilledDirectory_8 : decode cX2_isFilledDirectory 8 = .ok (.iload_n 1, 1) := by decide +kernel
theorem dX2_isFilledDirectory_9 : decode cX2_isFilledDirectory 9 = .ok (.iload_n 2, 1) := by decide +kernel
theorem dX2_isFilledDirectory_10 : decode cX2_isFilledDirectory 10 = .ok (.invokevirtual 91, 3) := by decide +kernel
theorem dX2_isFilledDirectory_13 : decode cX2_isFilledDirectory 13 = .ok (.ifCond .le 7, 3) := by decide +kernel
theorem dX2_isFilledDirectory_16 : decode cX2_isFilledDirectory 16 = .ok (.iconst 1, 1) := by decide +kernel
theorem dX2_isFilledDirectory_17 : decode cX2_isFilledDirectory 17 = .ok (.goto 4, 3) := by decide +kernel
theorem dX2_isFilledDirectory_20 : decode cX2_isFilledDirectory 20 = .ok (.iconst 0, 1) := by decide +kernel
theorem dX2_isFilledDirectory_21 : decode cX2_isFilledDirectory 21 = .ok (.ireturn, 1) := by decide +kernel
theorem dX2_keepUpper_0 : decode cX2_keepUpper 0 = .ok (.aload_n 0, 1) := by decide +kernel
theorem dX2_keepUpper_1 : decode cX2_keepUpper 1 = .ok (.getfield 33, 3) := by decide +kernel
theorem dX2_keepUpper_4 : decode cX2_keepUpper 4 = .ok (.aload_n 0, 1) := by decide +kernel
theorem dX2_keepUpper_5 : decode cX2_keepUpper 5 = .ok (.getfield 29, 3) := by decide +kernel
theorem dX2_keepUpper_8 : decode cX2_keepUpper 8 = .ok (.invokevirtual 169, 3) := by decide +kernel
theorem dX2_keepUpper_11 : decode cX2_keepUpper 11 = .ok (.aload_n 0, 1) := by decide +kernel
theorem dX2_keepUpper_12 : decode cX2_keepUpper 12 = .ok (.aload_n 0, 1) := by decide +kernel
theorem dX2_keepUpper_13 : decode cX2_keepUpper 13 = .ok (.getfield 122, 3) := by decide +kernel
theorem dX2_keepUpper_16 : decode cX2_keepUpper 16 = .ok (.putfield 173, 3) := by decide +kernel
theorem dX2_keepUpper_19 : decode cX2_keepUpper 19 = .ok (.return_, 1) := by decide +kernel
theorem dX2_settle_0 : decode cX2_settle 0 = .ok (.aload_n 0, 1) := by decide +kernel
theorem dX2_settle_1 : decode cX2_settle 1 = .ok (.getfield 29, 3) := by decide +kernel
theorem dX2_settle_4 : decode cX2_settle 4 = .ok (.invokevirtual 148, 3) := by decide +kernel
theorem dX2_settle_7 : decode cX2_settle 7 = .ok (.bipush 30, 2) := by decide +kernel
theorem dX2_settle_9 : decode cX2_settle 9 = .ok (.if_icmp .gt 5, 3) := by decide +kernel
theorem dX2_settle_12 : decode cX2_settle 12 = .ok (.iconst 0, 1) := by decide +kernel
theorem dX2_settle_13 : decode cX2_settle 13 = .ok (.ireturn, 1) := by decide +kernel
theorem dX2_settle_14 : decode cX2_settle 14 = .ok (.aload_n 0, 1) := by decide +kernel
theorem dX2_settle_15 : decode cX2_settle 15 = .ok (.getfield 29, 3) := by decide +kernel
theorem dX2_settle_18 : decode cX2_settle 18 = .ok (.aload_n 0, 1) := by decide +kernel
theorem dX2_settle_19 : decode cX2_settle 19 = .ok (.getfield 33, 3) := by decide +kernel
theorem dX2_settle_22 : decode cX2_settle 22 = .ok (.invokevirtual 169, 3) := by decide +kernel
theorem dX2_settle_25 : decode cX2_settle 25 = .ok (.aload_n 0, 1) := by decide +kernel
theorem dX2_settle_26 : decode cX2_settle 26 = .ok (.aload_n 0, 1) := by decide +kernel
theorem dX2_settle_27 : decode cX2_settle 27 = .ok (.getfield 173, 3) := by decide +kernel
theorem dX2_settle_30 : decode cX2_settle 30 = .ok (.putfield 122, 3) := by decide +kernel
theorem dX2_settle_33 : decode cX2_settle 33 = .ok (.bipush (-11), 2) := by decide +kernel
theorem dX2_settle_35 : decode cX2_settle 35 = .ok (.ireturn, 1) := by decide +kernel
theorem dX2_raise_0 : decode cX2_raise 0 = .ok (.iload_n 1, 1) := by decide +kernel
theorem dX2_raise_1 : decode cX2_raise 1 = .ok (.invokestatic 139, 3) := by decide +kernel
theorem dX2_raise_4 : decode cX2_raise 4 = .ok (.iconst 1, 1) := by decide +kernel
theorem dX2_raise_5 : decode cX2_raise 5 = .ok (.isub, 1) := by decide +kernel
theorem dX2_raise_6 : decode cX2_raise 6 = .ok (.istore_n 2, 1) := by decide +kernel
theorem dX2_raise_7 : decode cX2_raise 7 = .ok (.iload_n 2, 1) := by decide +kernel
theorem dX2_raise_8 : decode cX2_raise 8 = .ok (.ifCond .lt 45, 3) := by decide +kernel
theorem dX2_raise_11 : decode cX2_raise 11 = .ok (.iload_n 1, 1) := by decide +kernel
theorem dX2_raise_12 : decode cX2_raise 12 = .ok (.iload_n 2, 1) := by decide +kernel
theorem dX2_raise_13 : decode cX2_raise 13 = .ok (.invokestatic 163, 3) := by decide +kernel
theorem dX2_raise_16 : decode cX2_raise 16 = .ok (.istore_n 3, 1) := by decide +kernel
theorem dX2_raise_17 : decode cX2_raise 17 = .ok (.aload_n 0, 1) := by decide +kernel
theorem dX2_raise_18 : decode cX2_raise 18 = .ok (.getfield 29, 3) := by decide +kernel
theorem dX2_raise_21 : decode cX2_raise 21 = .ok (.iload_n 3, 1) := by decide +kernel
theorem dX2_raise_22 : decode cX2_raise 22 = .ok (.invokevirtual 54, 3) := by decide +kernel
theorem dX2_raise_25 : decode cX2_raise 25 = .ok (.ifCond .ne 22, 3) := by decide +kernel
theorem dX2_raise_28 : decode cX2_raise 28 = .ok (.aload_n 0, 1) := by decide +kernel
theorem dX2_raise_29 : decode cX2_raise 29 = .ok (.getfield 29, 3) := by decide +kernel
theorem dX2_raise_32 : decode cX2_raise 32 = .ok (.iload_n 3, 1) := by decide +kernel
theorem dX2_raise_33 : decode cX2_raise 33 = .ok (.iconst 2, 1) := by decide +kernel
theorem dX2_raise_34 : decode cX2_raise 34 = .ok (.invokevirtual 69, 3) := by decide +kernel
theorem dX2_raise_37 : decode cX2_raise 37 = .ok (.aload_n 0, 1) := by decide +kernel
theorem dX2_raise_38 : decode cX2_raise 38 = .ok (.dup, 1) := by decide +kernel
theorem dX2_raise_39 : decode cX2_raise 39 = .ok (.getfield 122, 3) := by decide +kernel
theorem dX2_raise_42 : decode cX2_raise 42 = .ok (.iconst 1, 1) := by decide +kernel
theorem dX2_raise_43 : decode cX2_raise 43 = .ok (.iadd, 1) := by decide +kernel
theorem dX2_raise_44 : decode cX2_raise 44 = .ok (.putfield 122, 3) := by decide +kernel
theorem dX2_raise_47 : decode cX2_raise 47 = .ok (.iinc 2 (-1), 3) := by decide +kernel
theorem dX2_raise_50 : decode cX2_raise 50 = .ok (.goto (-43), 3) := by decide +kernel
theorem dX2_raise_53 : decode cX2_raise 53 = .ok (.return_, 1) := by decide +kernel
theorem dX2_makeAt_0 : decode cX2_makeAt 0 = .ok (.aload_n 0, 1) := by decide +kernel
theorem dX2_makeAt_1 : decode cX2_makeAt 1 = .ok (.iload_n 1, 1) := by decide +kernel
theorem dX2_makeAt_2 : decode cX2_makeAt 2 = .ok (.invokestatic 57, 3) := by decide +kernel
theorem dX2_makeAt_5 : decode cX2_makeAt 5 = .ok (.invokevirtual 176, 3) := by decide +kernel
theorem dX2_makeAt_8 : decode cX2_makeAt 8 = .ok (.aload_n 0, 1) := by decide +kernel
theorem dX2_makeAt_9 : decode cX2_makeAt 9 = .ok (.getfield 29, 3) := by decide +kernel
theorem dX2_makeAt_12 : decode cX2_makeAt 12 = .ok (.iload_n 1, 1) := by decide +kernel
theorem dX2_makeAt_13 : decode cX2_makeAt 13 = .ok (.invokevirtual 179, 3) := by decide +kernel
theorem dX2_makeAt_16 : decode cX2_makeAt 16 = .ok (.aload_n 0, 1) := by decide +kernel
theorem dX2_makeAt_17 : decode cX2_makeAt 17 = .ok (.getfield 29, 3) := by decide +kernel
theorem dX2_makeAt_20 : decode cX2_makeAt 20 = .ok (.iload_n 1, 1) := by decide +kernel
theorem dX2_makeAt_21 : decode cX2_makeAt 21 = .ok (.iload_n 2, 1) := by decide +kernel
theorem dX2_makeAt_22 : decode cX2_makeAt 22 = .ok (.iconst 2, 1) := by decide +kernel
theorem dX2_makeAt_23 : decode cX2_makeAt 23 = .ok (.if_icmp .ne 15, 3) := by decide +kernel
theorem dX2_makeAt_26 : decode cX2_makeAt 26 = .ok (.aload_n 0, 1) := by decide +kernel
theorem dX2_makeAt_27 : decode cX2_makeAt 27 = .ok (.iload_n 1, 1) := by decide +kernel
theorem dX2_makeAt_28 : decode cX2_makeAt 28 = .ok (.invokevirtual 182, 3) := by decide +kernel
theorem dX2_makeAt_31 : decode cX2_makeAt 31 = .ok (.ifCond .eq 7, 3) := by decide +kernel
theorem dX2_makeAt_34 : decode cX2_makeAt 34 = .ok (.iconst 3, 1) := by decide +kernel
theorem dX2_makeAt_35 : decode cX2_makeAt 35 = .ok (.goto 4, 3) := by decide +kernel
theorem dX2_makeAt_38 : decode cX2_makeAt 38 = .ok (.iload_n 2, 1) := by decide +kernel
theorem dX2_makeAt_39 : decode cX2_makeAt 39 = .ok (.invokevirtual 69, 3) := by decide +kernel
theorem dX2_makeAt_42 : decode cX2_makeAt 42 = .ok (.return_, 1) := by decide +kernel
theorem dX2_unmakeAt_0 : decode cX2_unmakeAt 0 = .ok (.aload_n 0, 1) := by decide +kernel
theorem dX2_unmakeAt_1 : decode cX2_unmakeAt 1 = .ok (.getfield 29, 3) := by decide +kernel
theorem dX2_unmakeAt_4 : decode cX2_unmakeAt 4 = .ok (.iload_n 1, 1) := by decide +kernel
theorem dX2_unmakeAt_5 : decode cX2_unmakeAt 5 = .ok (.invokevirtual 179, 3) := by decide +kernel
theorem dX2_unmakeAt_8 : decode cX2_unmakeAt 8 = .ok (.aload_n 0, 1) := by decide +kernel
theorem dX2_unmakeAt_9 : decode cX2_unmakeAt 9 = .ok (.iload_n 1, 1) := by decide +kernel
theorem dX2_unmakeAt_10 : decode cX2_unmakeAt 10 = .ok (.invokevirtual 182, 3) := by decide +kernel
theorem dX2_unmakeAt_13 : decode cX2_unmakeAt 13 = .ok (.ifCond .eq 20, 3) := by decide +kernel
theorem dX2_unmakeAt_16 : decode cX2_unmakeAt 16 = .ok (.aload_n 0, 1) := by decide +kernel
theorem dX2_unmakeAt_17 : decode cX2_unmakeAt 17 = .ok (.iload_n 1, 1) := by decide +kernel
theorem dX2_unmakeAt_18 : decode cX2_unmakeAt 18 = .ok (.invokestatic 57, 3) := by decide +kernel
theorem dX2_unmakeAt_21 : decode cX2_unmakeAt 21 = .ok (.invokevirtual 176, 3) := by decide +kernel
theorem dX2_unmakeAt_24 : decode cX2_unmakeAt 24 = .ok (.aload_n 0, 1) := by decide +kernel
theorem dX2_unmakeAt_25 : decode cX2_unmakeAt 25 = .ok (.getfield 29, 3) := by decide +kernel
theorem dX2_unmakeAt_28 : decode cX2_unmakeAt 28 = .ok (.iload_n 1, 1) := by decide +kernel
theorem dX2_unmakeAt_29 : decode cX2_unmakeAt 29 = .ok (.iconst 4, 1) := by decide +kernel
theorem dX2_unmakeAt_30 : decode cX2_unmakeAt 30 = .ok (.invokevirtual 69, 3) := by decide +kernel
theorem dX2_unmakeAt_33 : decode cX2_unmakeAt 33 = .ok (.return_, 1) := by decide +kernel
theorem dX2_refusalOfTarget_0 : decode cX2_refusalOfTarget 0 = .ok (.iload_n 2, 1) := by decide +kernel
theorem dX2_refusalOfTarget_1 : decode cX2_refusalOfTarget 1 = .ok (.iload_n 1, 1) := by decide +kernel
theorem dX2_refusalOfTarget_2 : decode cX2_refusalOfTarget 2 = .ok (.invokestatic 185, 3) := by decide +kernel
theorem dX2_refusalOfTarget_5 : decode cX2_refusalOfTarget 5 = .ok (.ifCond .eq 6, 3) := by decide +kernel
theorem dX2_refusalOfTarget_8 : decode cX2_refusalOfTarget 8 = .ok (.bipush (-9), 2) := by decide +kernel
theorem dX2_refusalOfTarget_10 : decode cX2_refusalOfTarget 10 = .ok (.ireturn, 1) := by decide +kernel
theorem dX2_refusalOfTarget_11 : decode cX2_refusalOfTarget 11 = .ok (.aload_n 0, 1) := by decide +kernel
theorem dX2_refusalOfTarget_12 : decode cX2_refusalOfTarget 12 = .ok (.iload_n 2, 1) := by decide +kernel
theorem dX2_refusalOfTarget_13 : decode cX2_refusalOfTarget 13 = .ok (.invokestatic 57, 3) := by decide +kernel
theorem dX2_refusalOfTarget_16 : decode cX2_refusalOfTarget 16 = .ok (.invokevirtual 76, 3) := by decide +kernel
theorem dX2_refusalOfTarget_19 : decode cX2_refusalOfTarget 19 = .ok (.invokestatic 109, 3) := by decide +kernel
theorem dX2_refusalOfTarget_22 : decode cX2_refusalOfTarget 22 = .ok (.ifCond .ne 6, 3) := by decide +kernel
theorem dX2_refusalOfTarget_25 : decode cX2_refusalOfTarget 25 = .ok (.bipush (-4), 2) := by decide +kernel
theorem dX2_refusalOfTarget_27 : decode cX2_refusalOfTarget 27 = .ok (.ireturn, 1) := by decide +kernel
theorem dX2_refusalOfTarget_28 : decode cX2_refusalOfTarget 28 = .ok (.aload_n 0, 1) := by decide +kernel
theorem dX2_refusalOfTarget_29 : decode cX2_refusalOfTarget 29 = .ok (.iload_n 1, 1) := by decide +kernel
theorem dX2_refusalOfTarget_30 : decode cX2_refusalOfTarget 30 = .ok (.invokevirtual 76, 3) := by decide +kernel
theorem dX2_refusalOfTarget_33 : decode cX2_refusalOfTarget 33 = .ok (.istore_n 3, 1) := by decide +kernel
theorem dX2_refusalOfTarget_34 : decode cX2_refusalOfTarget 34 = .ok (.aload_n 0, 1) := by decide +kernel
theorem dX2_refusalOfTarget_35 : decode cX2_refusalOfTarget 35 = .ok (.iload_n 2, 1) := by decide +kernel
theorem dX2_refusalOfTarget_36 : decode cX2_refusalOfTarget 36 = .ok (.invokevirtual 76, 3) := by decide +kernel
theorem dX2_refusalOfTarget_39 : decode cX2_refusalOfTarget 39 = .ok (.istore 4, 2) := by decide +kernel
theorem dX2_refusalOfTarget_41 : decode cX2_refusalOfTarget 41 = .ok (.iload 4, 2) := by decide +kernel
theorem dX2_refusalOfTarget_43 : decode cX2_refusalOfTarget 43 = .ok (.invokestatic 109, 3) := by decide +kernel
theorem dX2_refusalOfTarget_46 : decode cX2_refusalOfTarget 46 = .ok (.ifCond .eq 13, 3) := by decide +kernel
theorem dX2_refusalOfTarget_49 : decode cX2_refusalOfTarget 49 = .ok (.iload_n 3, 1) := by decide +kernel
theorem dX2_refusalOfTarget_50 : decode cX2_refusalOfTarget 50 = .ok (.invokestatic 79, 3) := by decide +kernel
theorem dX2_refusalOfTarget_53 : decode cX2_refusalOfTarget 53 = .ok (.ifCond .eq 6, 3) := by decide +kernel
theorem dX2_refusalOfTarget_56 : decode cX2_refusalOfTarget 56 = .ok (.bipush (-6), 2) := by decide +kernel
theorem dX2_refusalOfTarget_58 : decode cX2_refusalOfTarget 58 = .ok (.ireturn, 1) := by decide +kernel
theorem dX2_refusalOfTarget_59 : decode cX2_refusalOfTarget 59 = .ok (.iload 4, 2) := by decide +kernel
theorem dX2_refusalOfTarget_61 : decode cX2_refusalOfTarget 61 = .ok (.invokestatic 79, 3) := by decide +kernel
theorem dX2_refusalOfTarget_64 : decode cX2_refusalOfTarget 64 = .ok (.ifCond .eq 13, 3) := by decide +kernel
theorem dX2_refusalOfTarget_67 : decode cX2_refusalOfTarget 67 = .ok (.iload_n 3, 1) := by decide +kernel
theorem dX2_refusalOfTarget_68 : decode cX2_refusalOfTarget 68 = .ok (.invokestatic 109, 3) := by decide +kernel
theorem dX2_refusalOfTarget_71 : decode cX2_refusalOfTarget 71 = .ok (.ifCond .eq 6, 3) := by decide +kernel
theorem dX2_refusalOfTarget_74 : decode cX2_refusalOfTarget 74 = .ok (.bipush (-7), 2) := by decide +kernel
theorem dX2_refusalOfTarget_76 : decode cX2_refusalOfTarget 76 = .ok (.ireturn, 1) := by decide +kernel
theorem dX2_refusalOfTarget_77 : decode cX2_refusalOfTarget 77 = .ok (.aload_n 0, 1) := by decide +kernel
theorem dX2_refusalOfTarget_78 : decode cX2_refusalOfTarget 78 = .ok (.iload_n 2, 1) := by decide +kernel
theorem dX2_refusalOfTarget_79 : decode cX2_refusalOfTarget 79 = .ok (.iload 4, 2) := by decide +kernel
theorem dX2_refusalOfTarget_81 : decode cX2_refusalOfTarget 81 = .ok (.invokevirtual 125, 3) := by decide +kernel
theorem dX2_refusalOfTarget_84 : decode cX2_refusalOfTarget 84 = .ok (.ifCond .eq 8, 3) := by decide +kernel
theorem dX2_refusalOfTarget_87 : decode cX2_refusalOfTarget 87 = .ok (.bipush (-8), 2) := by decide +kernel
theorem dX2_refusalOfTarget_89 : decode cX2_refusalOfTarget 89 = .ok (.goto 4, 3) := by decide +kernel
theorem dX2_refusalOfTarget_92 : decode cX2_refusalOfTarget 92 = .ok (.iconst 0, 1) := by decide +kernel
theorem dX2_refusalOfTarget_93 : decode cX2_refusalOfTarget 93 = .ok (.ireturn, 1) := by decide +kernel
theorem dX2_noteFrom_0 : decode cX2_noteFrom 0 = .ok (.aload_n 0, 1) := by decide +kernel
theorem dX2_noteFrom_1 : decode cX2_noteFrom 1 = .ok (.getfield 38, 3) := by decide +kernel
theorem dX2_noteFrom_4 : decode cX2_noteFrom 4 = .ok (.iconst 0, 1) := by decide +kernel
theorem dX2_noteFrom_5 : decode cX2_noteFrom 5 = .ok (.aload_n 0, 1) := by decide +kernel
theorem dX2_noteFrom_6 : decode cX2_noteFrom 6 = .ok (.iload_n 1, 1) := by decide +kernel
theorem dX2_noteFrom_7 : decode cX2_noteFrom 7 = .ok (.invokevirtual 188, 3) := by decide +kernel
theorem dX2_noteFrom_10 : decode cX2_noteFrom 10 = .ok (.iastore, 1) := by decide +kernel
theorem dX2_noteFrom_11 : decode cX2_noteFrom 11 = .ok (.iconst 1, 1) := by decide +kernel
theorem dX2_noteFrom_12 : decode cX2_noteFrom 12 = .ok (.istore_n 2, 1) := by decide +kernel
theorem dX2_noteFrom_13 : decode cX2_noteFrom 13 = .ok (.iload_n 2, 1) := by decide +kernel
theorem dX2_noteFrom_14 : decode cX2_noteFrom 14 = .ok (.aload_n 0, 1) := by decide +kernel
theorem dX2_noteFrom_15 : decode cX2_noteFrom 15 = .ok (.getfield 38, 3) := by decide +kernel
theorem dX2_noteFrom_18 : decode cX2_noteFrom 18 = .ok (.arraylength, 1) := by decide +kernel
theorem dX2_noteFrom_19 : decode cX2_noteFrom 19 = .ok (.if_icmp .ge 51, 3) := by decide +kernel
theorem dX2_noteFrom_22 : decode cX2_noteFrom 22 = .ok (.aload_n 0, 1) := by decide +kernel
theorem dX2_noteFrom_23 : decode cX2_noteFrom 23 = .ok (.getfield 38, 3) := by decide +kernel
theorem dX2_noteFrom_26 : decode cX2_noteFrom 26 = .ok (.iload_n 2, 1) := by decide +kernel
theorem dX2_noteFrom_27 : decode cX2_noteFrom 27 = .ok (.invokestatic 57, 3) := by decide +kernel
theorem dX2_noteFrom_30 : decode cX2_noteFrom 30 = .ok (.iaload, 1) := by decide +kernel
theorem dX2_noteFrom_31 : decode cX2_noteFrom 31 = .ok (.iconst 2, 1) := by decide +kernel
theorem dX2_noteFrom_32 : decode cX2_noteFrom 32 = .ok (.if_icmp .ne 7, 3) := by decide +kernel
theorem dX2_noteFrom_35 : decode cX2_noteFrom 35 = .ok (.iconst 1, 1) := by decide +kernel
theorem dX2_noteFrom_36 : decode cX2_noteFrom 36 = .ok (.goto 4, 3) := by decide +kernel
theorem dX2_noteFrom_39 : decode cX2_noteFrom 39 = .ok (.iconst 0, 1) := by decide +kernel
theorem dX2_noteFrom_40 : decode cX2_noteFrom 40 = .ok (.istore_n 3, 1) := by decide +kernel
theorem dX2_noteFrom_41 : decode cX2_noteFrom 41 = .ok (.aload_n 0, 1) := by decide +kernel
theorem dX2_noteFrom_42 : decode cX2_noteFrom 42 = .ok (.getfield 38, 3) := by decide +kernel
theorem dX2_noteFrom_45 : decode cX2_noteFrom 45 = .ok (.iload_n 2, 1) := by decide +kernel
theorem dX2_noteFrom_46 : decode cX2_noteFrom 46 = .ok (.iload_n 3, 1) := by decide +kernel
theorem dX2_noteFrom_47 : decode cX2_noteFrom 47 = .ok (.ifCond .eq 15, 3) := by decide +kernel
theorem dX2_noteFrom_50 : decode cX2_noteFrom 50 = .ok (.aload_n 0, 1) := by decide +kernel
theorem dX2_noteFrom_51 : decode cX2_noteFrom 51 = .ok (.iload_n 1, 1) := by decide +kernel
theorem dX2_noteFrom_52 : decode cX2_noteFrom 52 = .ok (.iload_n 2, 1) := by decide +kernel
theorem dX2_noteFrom_53 : decode cX2_noteFrom 53 = .ok (.invokestatic 191, 3) := by decide +kernel
theorem dX2_noteFrom_56 : decode cX2_noteFrom 56 = .ok (.invokevirtual 188, 3) := by decide +kernel
theorem dX2_noteFrom_59 : decode cX2_noteFrom 59 = .ok (.goto 4, 3) := by decide +kernel
theorem dX2_noteFrom_62 : decode cX2_noteFrom 62 = .ok (.iconst 0, 1) := by decide +kernel
theorem dX2_noteFrom_63 : decode cX2_noteFrom 63 = .ok (.iastore, 1) := by decide +kernel
theorem dX2_noteFrom_64 : decode cX2_noteFrom 64 = .ok (.iinc 2 1, 3) := by decide +kernel
theorem dX2_noteFrom_67 : decode cX2_noteFrom 67 = .ok (.goto (-54), 3) := by decide +kernel
theorem dX2_noteFrom_70 : decode cX2_noteFrom 70 = .ok (.return_, 1) := by decide +kernel
theorem dX2_cellOfObject_0 : decode cX2_cellOfObject 0 = .ok (.iload_n 1, 1) := by decide +kernel
theorem dX2_cellOfObject_1 : decode cX2_cellOfObject 1 = .ok (.sipush 781, 3) := by decide +kernel
theorem dX2_cellOfObject_4 : decode cX2_cellOfObject 4 = .ok (.if_icmp .lt 5, 3) := by decide +kernel
theorem dX2_cellOfObject_7 : decode cX2_cellOfObject 7 = .ok (.iconst 0, 1) := by decide +kernel
theorem dX2_cellOfObject_8 : decode cX2_cellOfObject 8 = .ok (.ireturn, 1) := by decide +kernel
theorem dX2_cellOfObject_9 : decode cX2_cellOfObject 9 = .ok (.aload_n 0, 1) := by decide +kernel
theorem dX2_cellOfObject_10 : decode cX2_cellOfObject 10 = .ok (.iload_n 1, 1) := by decide +kernel
theorem dX2_cellOfObject_11 : decode cX2_cellOfObject 11 = .ok (.invokevirtual 76, 3) := by decide +kernel
theorem dX2_cellOfObject_14 : decode cX2_cellOfObject 14 = .ok (.istore_n 2, 1) := by decide +kernel
theorem dX2_cellOfObject_15 : decode cX2_cellOfObject 15 = .ok (.iload_n 2, 1) := by decide +kernel
theorem dX2_cellOfObject_16 : decode cX2_cellOfObject 16 = .ok (.invokestatic 79, 3) := by decide +kernel
theorem dX2_cellOfObject_19 : decode cX2_cellOfObject 19 = .ok (.ifCond .eq 20, 3) := by decide +kernel
theorem dX2_cellOfObject_22 : decode cX2_cellOfObject 22 = .ok (.aload_n 0, 1) := by decide +kernel
theorem dX2_cellOfObject_23 : decode cX2_cellOfObject 23 = .ok (.getfield 24, 3) := by decide +kernel
theorem dX2_cellOfObject_26 : decode cX2_cellOfObject 26 = .ok (.iload_n 2, 1) := by decide +kernel
theorem dX2_cellOfObject_27 : decode cX2_cellOfObject 27 = .ok (.invokestatic 82, 3) := by decide +kernel
theorem dX2_cellOfObject_30 : decode cX2_cellOfObject 30 = .ok (.aaload, 1) := by decide +kernel
theorem dX2_cellOfObject_31 : decode cX2_cellOfObject 31 = .ok (.iload_n 1, 1) := by decide +kernel
theorem dX2_cellOfObject_32 : decode cX2_cellOfObject 32 = .ok (.invokevirtual 85, 3) := by decide +kernel
theorem dX2_cellOfObject_35 : decode cX2_cellOfObject 35 = .ok (.invokestatic 66, 3) := by decide +kernel
theorem dX2_cellOfObject_38 : decode cX2_cellOfObject 38 = .ok (.ireturn, 1) := by decide +kernel
theorem dX2_cellOfObject_39 : decode cX2_cellOfObject 39 = .ok (.iload_n 2, 1) := by decide +kernel
theorem dX2_cellOfObject_40 : decode cX2_cellOfObject 40 = .ok (.invokestatic 109, 3) := by decide +kernel
theorem dX2_cellOfObject_43 : decode cX2_cellOfObject 43 = .ok (.ifCond .eq 7, 3) := by decide +kernel
theorem dX2_cellOfObject_46 : decode cX2_cellOfObject 46 = .ok (.iconst 2, 1) := by decide +kernel
theorem dX2_cellOfObject_47 : decode cX2_cellOfObject 47 = .ok (.goto 4, 3) := by decide +kernel
theorem dX2_cellOfObject_50 : decode cX2_cellOfObject 50 = .ok (.iconst 0, 1) := by decide +kernel
theorem dX2_cellOfObject_51 : decode cX2_cellOfObject 51 = .ok (.ireturn, 1) := by decide +kernel
theorem dX2_depthOfNoted_0 : decode cX2_depthOfNoted 0 = .ok (.iconst 0, 1) := by decide +kernel
theorem dX2_depthOfNoted_1 : decode cX2_depthOfNoted 1 = .ok (.istore_n 1, 1) := by decide +kernel
theorem dX2_depthOfNoted_2 : decode cX2_depthOfNoted 2 = .ok (.iconst 0, 1) := by decide +kernel
theorem dX2_depthOfNoted_3 : decode cX2_depthOfNoted 3 = .ok (.istore_n 2, 1) := by decide +kernel
theorem dX2_depthOfNoted_4 : decode cX2_depthOfNoted 4 = .ok (.iload_n 2, 1) := by decide +kernel
theorem dX2_depthOfNoted_5 : decode cX2_depthOfNoted 5 = .ok (.aload_n 0, 1) := by decide +kernel
theorem dX2_depthOfNoted_6 : decode cX2_depthOfNoted 6 = .ok (.getfield 38, 3) := by decide +kernel
theorem dX2_depthOfNoted_9 : decode cX2_depthOfNoted 9 = .ok (.arraylength, 1) := by decide +kernel
theorem dX2_depthOfNoted_10 : decode cX2_depthOfNoted 10 = .ok (.if_icmp .ge 23, 3) := by decide +kernel
theorem dX2_depthOfNoted_13 : decode cX2_depthOfNoted 13 = .ok (.aload_n 0, 1) := by decide +kernel
theorem dX2_depthOfNoted_14 : decode cX2_depthOfNoted 14 = .ok (.getfield 38, 3) := by decide +kernel
theorem dX2_depthOfNoted_17 : decode cX2_depthOfNoted 17 = .ok (.iload_n 2, 1) := by decide +kernel
theorem dX2_depthOfNoted_18 : decode cX2_depthOfNoted 18 = .ok (.iaload, 1) := by decide +kernel
theorem dX2_depthOfNoted_19 : decode cX2_depthOfNoted 19 = .ok (.ifCond .eq 8, 3) := by decide +kernel
theorem dX2_depthOfNoted_22 : decode cX2_depthOfNoted 22 = .ok (.iload_n 2, 1) := by decide +kernel
theorem dX2_depthOfNoted_23 : decode cX2_depthOfNoted 23 = .ok (.invokestatic 139, 3) := by decide +kernel
theorem dX2_depthOfNoted_26 : decode cX2_depthOfNoted 26 = .ok (.istore_n 1, 1) := by decide +kernel
theorem dX2_depthOfNoted_27 : decode cX2_depthOfNoted 27 = .ok (.iinc 2 1, 3) := by decide +kernel
theorem dX2_depthOfNoted_30 : decode cX2_depthOfNoted 30 = .ok (.goto (-26), 3) := by decide +kernel
theorem dX2_depthOfNoted_33 : decode cX2_depthOfNoted 33 = .ok (.iload_n 1, 1) := by decide +kernel
theorem dX2_depthOfNoted_34 : decode cX2_depthOfNoted 34 = .ok (.ireturn, 1) := by decide +kernel
theorem dX2_makeNotedAt_0 : decode cX2_makeNotedAt 0 = .ok (.iconst 0, 1) := by decide +kernel
theorem dX2_makeNotedAt_1 : decode cX2_makeNotedAt 1 = .ok (.istore_n 2, 1) := by decide +kernel
theorem dX2_makeNotedAt_2 : decode cX2_makeNotedAt 2 = .ok (.iload_n 2, 1) := by decide +kernel
theorem dX2_makeNotedAt_3 : decode cX2_makeNotedAt 3 = .ok (.aload_n 0, 1) := by decide +kernel
theorem dX2_makeNotedAt_4 : decode cX2_makeNotedAt 4 = .ok (.getfield 38, 3) := by decide +kernel
theorem dX2_makeNotedAt_7 : decode cX2_makeNotedAt 7 = .ok (.arraylength, 1) := by decide +kernel
theorem dX2_makeNotedAt_8 : decode cX2_makeNotedAt 8 = .ok (.if_icmp .ge 33, 3) := by decide +kernel
theorem dX2_makeNotedAt_11 : decode cX2_makeNotedAt 11 = .ok (.aload_n 0, 1) := by decide +kernel
theorem dX2_makeNotedAt_12 : decode cX2_makeNotedAt 12 = .ok (.getfield 38, 3) := by decide +kernel
theorem dX2_makeNotedAt_15 : decode cX2_makeNotedAt 15 = .ok (.iload_n 2, 1) := by decide +kernel
theorem dX2_makeNotedAt_16 : decode cX2_makeNotedAt 16 = .ok (.iaload, 1) := by decide +kernel
theorem dX2_makeNotedAt_17 : decode cX2_makeNotedAt 17 = .ok (.ifCond .eq 18, 3) := by decide +kernel
theorem dX2_makeNotedAt_20 : decode cX2_makeNotedAt 20 = .ok (.aload_n 0, 1) := by decide +kernel
theorem dX2_makeNotedAt_21 : decode cX2_makeNotedAt 21 = .ok (.iload_n 1, 1) := by decide +kernel
theorem dX2_makeNotedAt_22 : decode cX2_makeNotedAt 22 = .ok (.iload_n 2, 1) := by decide +kernel
theorem dX2_makeNotedAt_23 : decode cX2_makeNotedAt 23 = .ok (.invokestatic 191, 3) := by decide +kernel
theorem dX2_makeNotedAt_26 : decode cX2_makeNotedAt 26 = .ok (.aload_n 0, 1) := by decide +kernel
theorem dX2_makeNotedAt_27 : decode cX2_makeNotedAt 27 = .ok (.getfield 38, 3) := by decide +kernel
theorem dX2_makeNotedAt_30 : decode cX2_makeNotedAt 30 = .ok (.iload_n 2, 1) := by decide +kernel
theorem dX2_makeNotedAt_31 : decode cX2_makeNotedAt 31 = .ok (.iaload, 1) := by decide +kernel
theorem dX2_makeNotedAt_32 : decode cX2_makeNotedAt 32 = .ok (.invokevirtual 115, 3) := by decide +kernel
theorem dX2_makeNotedAt_35 : decode cX2_makeNotedAt 35 = .ok (.iinc 2 1, 3) := by decide +kernel
theorem dX2_makeNotedAt_38 : decode cX2_makeNotedAt 38 = .ok (.goto (-36), 3) := by decide +kernel
theorem dX2_makeNotedAt_41 : decode cX2_makeNotedAt 41 = .ok (.return_, 1) := by decide +kernel
theorem dX0_init_0 : decode cX0_init 0 = .ok (.aload_n 0, 1) := by decide +kernel
theorem dX0_init_1 : decode cX0_init 1 = .ok (.invokespecial 3, 3) := by decide +kernel
theorem dX0_init_4 : decode cX0_init 4 = .ok (.aload_n 0, 1) := by decide +kernel
theorem dX0_init_5 : decode cX0_init 5 = .ok (.sipush 781, 3) := by decide +kernel
theorem dX0_init_8 : decode cX0_init 8 = .ok (.newarray .int, 2) := by decide +kernel
theorem dX0_init_10 : decode cX0_init 10 = .ok (.putfield 11, 3) := by decide +kernel
theorem dX0_init_13 : decode cX0_init 13 = .ok (.return_, 1) := by decide +kernel
theorem dX0_fileCell_0 : decode cX0_fileCell 0 = .ok (.iload_n 0, 1) := by decide +kernel
theorem dX0_fileCell_1 : decode cX0_fileCell 1 = .ok (.iconst (-1), 1) := by decide +kernel
theorem dX0_fileCell_2 : decode cX0_fileCell 2 = .ok (.ixor, 1) := by decide +kernel
theorem dX0_fileCell_3 : decode cX0_fileCell 3 = .ok (.ireturn, 1) := by decide +kernel
theorem dX0_kindAt_0 : decode cX0_kindAt 0 = .ok (.iload_n 1, 1) := by decide +kernel
theorem dX0_kindAt_1 : decode cX0_kindAt 1 = .ok (.ifCond .lt 12, 3) := by decide +kernel
theorem dX0_kindAt_4 : decode cX0_kindAt 4 = .ok (.iload_n 1, 1) := by decide +kernel
theorem dX0_kindAt_5 : decode cX0_kindAt 5 = .ok (.aload_n 0, 1) := by decide +kernel
theorem dX0_kindAt_6 : decode cX0_kindAt 6 = .ok (.getfield 11, 3) := by decide +kernel
theorem dX0_kindAt_9 : decode cX0_kindAt 9 = .ok (.arraylength, 1) := by decide +kernel
theorem dX0_kindAt_10 : decode cX0_kindAt 10 = .ok (.if_icmp .lt 5, 3) := by decide +kernel
theorem dX0_kindAt_13 : decode cX0_kindAt 13 = .ok (.iconst 0, 1) := by decide +kernel
theorem dX0_kindAt_14 : decode cX0_kindAt 14 = .ok (.ireturn, 1) := by decide +kernel
theorem dX0_kindAt_15 : decode cX0_kindAt 15 = .ok (.aload_n 0, 1) := by decide +kernel
theorem dX0_kindAt_16 : decode cX0_kindAt 16 = .ok (.getfield 11, 3) := by decide +kernel
theorem dX0_kindAt_19 : decode cX0_kindAt 19 = .ok (.iload_n 1, 1) := by decide +kernel
theorem dX0_kindAt_20 : decode cX0_kindAt 20 = .ok (.iaload, 1) := by decide +kernel
theorem dX0_kindAt_21 : decode cX0_kindAt 21 = .ok (.ifCond .ge 7, 3) := by decide +kernel
theorem dX0_kindAt_24 : decode cX0_kindAt 24 = .ok (.iconst 1, 1) := by decide +kernel
theorem dX0_kindAt_25 : decode cX0_kindAt 25 = .ok (.goto 9, 3) := by decide +kernel
theorem dX0_kindAt_28 : decode cX0_kindAt 28 = .ok (.aload_n 0, 1) := by decide +kernel
theorem dX0_kindAt_29 : decode cX0_kindAt 29 = .ok (.getfield 11, 3) := by decide +kernel
theorem dX0_kindAt_32 : decode cX0_kindAt 32 = .ok (.iload_n 1, 1) := by decide +kernel
theorem dX0_kindAt_33 : decode cX0_kindAt 33 = .ok (.iaload, 1) := by decide +kernel
theorem dX0_kindAt_34 : decode cX0_kindAt 34 = .ok (.ireturn, 1) := by decide +kernel
theorem dX0_valueAt_0 : decode cX0_valueAt 0 = .ok (.aload_n 0, 1) := by decide +kernel
theorem dX0_valueAt_1 : decode cX0_valueAt 1 = .ok (.iload_n 1, 1) := by decide +kernel
theorem dX0_valueAt_2 : decode cX0_valueAt 2 = .ok (.invokevirtual 17, 3) := by decide +kernel
theorem dX0_valueAt_5 : decode cX0_valueAt 5 = .ok (.iconst 1, 1) := by decide +kernel
theorem dX0_valueAt_6 : decode cX0_valueAt 6 = .ok (.if_icmp .ne 14, 3) := by decide +kernel
theorem dX0_valueAt_9 : decode cX0_valueAt 9 = .ok (.aload_n 0, 1) := by decide +kernel
theorem dX0_valueAt_10 : decode cX0_valueAt 10 = .ok (.getfield 11, 3) := by decide +kernel
theorem dX0_valueAt_13 : decode cX0_valueAt 13 = .ok (.iload_n 1, 1) := by decide +kernel
theorem dX0_valueAt_14 : decode cX0_valueAt 14 = .ok (.iaload, 1) := by decide +kernel
theorem dX0_valueAt_15 : decode cX0_valueAt 15 = .ok (.iconst (-1), 1) := by decide +kernel
theorem dX0_valueAt_16 : decode cX0_valueAt 16 = .ok (.ixor, 1) := by decide +kernel
theorem dX0_valueAt_17 : decode cX0_valueAt 17 = .ok (.goto 4, 3) := by decide +kernel
theorem dX0_valueAt_20 : decode cX0_valueAt 20 = .ok (.iconst 0, 1) := by decide +kernel
theorem dX0_valueAt_21 : decode cX0_valueAt 21 = .ok (.ireturn, 1) := by decide +kernel
theorem dX0_canHoldIn_0 : decode cX0_canHoldIn 0 = .ok (.iload_n 1, 1) := by decide +kernel
theorem dX0_canHoldIn_1 : decode cX0_canHoldIn 1 = .ok (.ifCond .eq 21, 3) := by decide +kernel
theorem dX0_canHoldIn_4 : decode cX0_canHoldIn 4 = .ok (.aload_n 0, 1) := by decide +kernel
theorem dX0_canHoldIn_5 : decode cX0_canHoldIn 5 = .ok (.iload_n 1, 1) := by decide +kernel
theorem dX0_canHoldIn_6 : decode cX0_canHoldIn 6 = .ok (.invokevirtual 17, 3) := by decide +kernel
theorem dX0_canHoldIn_9 : decode cX0_canHoldIn 9 = .ok (.iconst 2, 1) := by decide +kernel
theorem dX0_canHoldIn_10 : decode cX0_canHoldIn 10 = .ok (.if_icmp .eq 12, 3) := by decide +kernel
theorem dX0_canHoldIn_13 : decode cX0_canHoldIn 13 = .ok (.aload_n 0, 1) := by decide +kernel
theorem dX0_canHoldIn_14 : decode cX0_canHoldIn 14 = .ok (.iload_n 1, 1) := by decide +kernel
theorem dX0_canHoldIn_15 : decode cX0_canHoldIn 15 = .ok (.invokevirtual 17, 3) := by decide +kernel
theorem dX0_canHoldIn_18 : decode cX0_canHoldIn 18 = .ok (.iconst 3, 1) := by decide +kernel
theorem dX0_canHoldIn_19 : decode cX0_canHoldIn 19 = .ok (.if_icmp .ne 7, 3) := by decide +kernel
theorem dX0_canHoldIn_22 : decode cX0_canHoldIn 22 = .ok (.iconst 1, 1) := by decide +kernel
theorem dX0_canHoldIn_23 : decode cX0_canHoldIn 23 = .ok (.goto 4, 3) := by decide +kernel
theorem dX0_canHoldIn_26 : decode cX0_canHoldIn 26 = .ok (.iconst 0, 1) := by decide +kernel
theorem dX0_canHoldIn_27 : decode cX0_canHoldIn 27 = .ok (.ireturn, 1) := by decide +kernel
theorem dX0_entryCount_0 : decode cX0_entryCount 0 = .ok (.aload_n 0, 1) := by decide +kernel
theorem dX0_entryCount_1 : decode cX0_entryCount 1 = .ok (.getfield 21, 3) := by decide +kernel
theorem dX0_entryCount_4 : decode cX0_entryCount 4 = .ok (.ireturn, 1) := by decide +kernel
theorem dX0_whiteoutCount_0 : decode cX0_whiteoutCount 0 = .ok (.aload_n 0, 1) := by decide +kernel
theorem dX0_whiteoutCount_1 : decode cX0_whiteoutCount 1 = .ok (.getfield 25, 3) := by decide +kernel
theorem dX0_whiteoutCount_4 : decode cX0_whiteoutCount 4 = .ok (.ireturn, 1) := by decide +kernel
theorem dX0_set_0 : decode cX0_set 0 = .ok (.iload_n 1, 1) := by decide +kernel
theorem dX0_set_1 : decode cX0_set 1 = .ok (.ifCond .le 12, 3) := by decide +kernel
theorem dX0_set_4 : decode cX0_set 4 = .ok (.iload_n 1, 1) := by decide +kernel
theorem dX0_set_5 : decode cX0_set 5 = .ok (.aload_n 0, 1) := by decide +kernel
theorem dX0_set_6 : decode cX0_set 6 = .ok (.getfield 11, 3) := by decide +kernel
theorem dX0_set_9 : decode cX0_set 9 = .ok (.arraylength, 1) := by decide +kernel
theorem dX0_set_10 : decode cX0_set 10 = .ok (.if_icmp .lt 4, 3) := by decide +kernel
theorem dX0_set_13 : decode cX0_set 13 = .ok (.return_, 1) := by decide +kernel
theorem dX0_set_14 : decode cX0_set 14 = .ok (.aload_n 0, 1) := by decide +kernel
theorem dX0_set_15 : decode cX0_set 15 = .ok (.dup, 1) := by decide +kernel
theorem dX0_set_16 : decode cX0_set 16 = .ok (.getfield 21, 3) := by decide +kernel
theorem dX0_set_19 : decode cX0_set 19 = .ok (.iload_n 2, 1) := by decide +kernel
theorem dX0_set_20 : decode cX0_set 20 = .ok (.ifCond .ne 7, 3) := by decide +kernel
theorem dX0_set_23 : decode cX0_set 23 = .ok (.iconst 0, 1) := by decide +kernel
theorem dX0_set_24 : decode cX0_set 24 = .ok (.goto 4, 3) := by decide +kernel
theorem dX0_set_27 : decode cX0_set 27 = .ok (.iconst 1, 1) := by decide +kernel
theorem dX0_set_28 : decode cX0_set 28 = .ok (.aload_n 0, 1) := by decide +kernel
theorem dX0_set_29 : decode cX0_set 29 = .ok (.getfield 11, 3) := by decide +kernel
theorem dX0_set_32 : decode cX0_set 32 = .ok (.iload_n 1, 1) := by decide +kernel
theorem dX0_set_33 : decode cX0_set 33 = .ok (.iaload, 1) := by decide +kernel
theorem dX0_set_34 : decode cX0_set 34 = .ok (.ifCond .ne 7, 3) := by decide +kernel
theorem dX0_set_37 : decode cX0_set 37 = .ok (.iconst 0, 1) := by decide +kernel
theorem dX0_set_38 : decode cX0_set 38 = .ok (.goto 4, 3) := by decide +kernel
theorem dX0_set_41 : decode cX0_set 41 = .ok (.iconst 1, 1) := by decide +kernel
theorem dX0_set_42 : decode cX0_set 42 = .ok (.isub, 1) := by decide +kernel
theorem dX0_set_43 : decode cX0_set 43 = .ok (.iadd, 1) := by decide +kernel
theorem dX0_set_44 : decode cX0_set 44 = .ok (.putfield 21, 3) := by decide +kernel
theorem dX0_set_47 : decode cX0_set 47 = .ok (.aload_n 0, 1) := by decide +kernel
theorem dX0_set_48 : decode cX0_set 48 = .ok (.dup, 1) := by decide +kernel
theorem dX0_set_49 : decode cX0_set 49 = .ok (.getfield 25, 3) := by decide +kernel
theorem dX0_set_52 : decode cX0_set 52 = .ok (.iload_n 2, 1) := by decide +kernel
theorem dX0_set_53 : decode cX0_set 53 = .ok (.iconst 4, 1) := by decide +kernel
theorem dX0_set_54 : decode cX0_set 54 = .ok (.if_icmp .ne 7, 3) := by decide +kernel
theorem dX0_set_57 : decode cX0_set 57 = .ok (.iconst 1, 1) := by decide +kernel
theorem dX0_set_58 : decode cX0_set 58 = .ok (.goto 4, 3) := by decide +kernel
theorem dX0_set_61 : decode cX0_set 61 = .ok (.iconst 0, 1) := by decide +kernel
theorem dX0_set_62 : decode cX0_set 62 = .ok (.aload_n 0, 1) := by decide +kernel
theorem dX0_set_63 : decode cX0_set 63 = .ok (.getfield 11, 3) := by decide +kernel
theorem dX0_set_66 : decode cX0_set 66 = .ok (.iload_n 1, 1) := by decide +kernel
theorem dX0_set_67 : decode cX0_set 67 = .ok (.iaload, 1) := by decide +kernel
theorem dX0_set_68 : decode cX0_set 68 = .ok (.iconst 4, 1) := by decide +kernel
theorem dX0_set_69 : decode cX0_set 69 = .ok (.if_icmp .ne 7, 3) := by decide +kernel
theorem dX0_set_72 : decode cX0_set 72 = .ok (.iconst 1, 1) := by decide +kernel
theorem dX0_set_73 : decode cX0_set 73 = .ok (.goto 4, 3) := by decide +kernel
theorem dX0_set_76 : decode cX0_set 76 = .ok (.iconst 0, 1) := by decide +kernel
theorem dX0_set_77 : decode cX0_set 77 = .ok (.isub, 1) := by decide +kernel
theorem dX0_set_78 : decode cX0_set 78 = .ok (.iadd, 1) := by decide +kernel
theorem dX0_set_79 : decode cX0_set 79 = .ok (.putfield 25, 3) := by decide +kernel
theorem dX0_set_82 : decode cX0_set 82 = .ok (.aload_n 0, 1) := by decide +kernel
theorem dX0_set_83 : decode cX0_set 83 = .ok (.getfield 11, 3) := by decide +kernel
theorem dX0_set_86 : decode cX0_set 86 = .ok (.iload_n 1, 1) := by decide +kernel
theorem dX0_set_87 : decode cX0_set 87 = .ok (.iload_n 2, 1) := by decide +kernel
theorem dX0_set_88 : decode cX0_set 88 = .ok (.iastore, 1) := by decide +kernel
theorem dX0_set_89 : decode cX0_set 89 = .ok (.return_, 1) := by decide +kernel
theorem dX0_clearFrom_0 : decode cX0_clearFrom 0 = .ok (.iload_n 1, 1) := by decide +kernel
theorem dX0_clearFrom_1 : decode cX0_clearFrom 1 = .ok (.istore_n 2, 1) := by decide +kernel
theorem dX0_clearFrom_2 : decode cX0_clearFrom 2 = .ok (.iload_n 1, 1) := by decide +kernel
theorem dX0_clearFrom_3 : decode cX0_clearFrom 3 = .ok (.istore_n 3, 1) := by decide +kernel
theorem dX0_clearFrom_4 : decode cX0_clearFrom 4 = .ok (.iload_n 1, 1) := by decide +kernel
theorem dX0_clearFrom_5 : decode cX0_clearFrom 5 = .ok (.invokestatic 28, 3) := by decide +kernel
theorem dX0_clearFrom_8 : decode cX0_clearFrom 8 = .ok (.istore 4, 2) := by decide +kernel
theorem dX0_clearFrom_10 : decode cX0_clearFrom 10 = .ok (.iload 4, 2) := by decide +kernel
theorem dX0_clearFrom_12 : decode cX0_clearFrom 12 = .ok (.iconst 4, 1) := by decide +kernel
theorem dX0_clearFrom_13 : decode cX0_clearFrom 13 = .ok (.if_icmp .gt 43, 3) := by decide +kernel
theorem dX0_clearFrom_16 : decode cX0_clearFrom 16 = .ok (.iload_n 2, 1) := by decide +kernel
theorem dX0_clearFrom_17 : decode cX0_clearFrom 17 = .ok (.istore 5, 2) := by decide +kernel
theorem dX0_clearFrom_19 : decode cX0_clearFrom 19 = .ok (.iload 5, 2) := by decide +kernel
theorem dX0_clearFrom_21 : decode cX0_clearFrom 21 = .ok (.iload_n 3, 1) := by decide +kernel
theorem dX0_clearFrom_22 : decode cX0_clearFrom 22 = .ok (.if_icmp .gt 16, 3) := by decide +kernel
theorem dX0_clearFrom_25 : decode cX0_clearFrom 25 = .ok (.aload_n 0, 1) := by decide +kernel
theorem dX0_clearFrom_26 : decode cX0_clearFrom 26 = .ok (.iload 5, 2) := by decide +kernel
theorem dX0_clearFrom_28 : decode cX0_clearFrom 28 = .ok (.iconst 0, 1) := by decide +kernel
theorem dX0_clearFrom_29 : decode cX0_clearFrom 29 = .ok (.invokevirtual 31, 3) := by decide +kernel
theorem dX0_clearFrom_32 : decode cX0_clearFrom 32 = .ok (.iinc 5 1, 3) := by decide +kernel
theorem dX0_clearFrom_35 : decode cX0_clearFrom 35 = .ok (.goto (-16), 3) := by decide +kernel
theorem dX0_clearFrom_38 : decode cX0_clearFrom 38 = .ok (.iload_n 2, 1) := by decide +kernel
theorem dX0_clearFrom_39 : decode cX0_clearFrom 39 = .ok (.iconst 1, 1) := by decide +kernel
theorem dX0_clearFrom_40 : decode cX0_clearFrom 40 = .ok (.invokestatic 35, 3) := by decide +kernel
theorem dX0_clearFrom_43 : decode cX0_clearFrom 43 = .ok (.istore_n 2, 1) := by decide +kernel
theorem dX0_clearFrom_44 : decode cX0_clearFrom 44 = .ok (.iload_n 3, 1) := by decide +kernel
theorem dX0_clearFrom_45 : decode cX0_clearFrom 45 = .ok (.iconst 5, 1) := by decide +kernel
theorem dX0_clearFrom_46 : decode cX0_clearFrom 46 = .ok (.invokestatic 35, 3) := by decide +kernel
theorem dX0_clearFrom_49 : decode cX0_clearFrom 49 = .ok (.istore_n 3, 1) := by decide +kernel
theorem dX0_clearFrom_50 : decode cX0_clearFrom 50 = .ok (.iinc 4 1, 3) := by decide +kernel
theorem dX0_clearFrom_53 : decode cX0_clearFrom 53 = .ok (.goto (-43), 3) := by decide +kernel
theorem dX0_clearFrom_56 : decode cX0_clearFrom 56 = .ok (.return_, 1) := by decide +kernel
theorem dX0_copyFrom_0 : decode cX0_copyFrom 0 = .ok (.aload_n 1, 1) := by decide +kernel
theorem dX0_copyFrom_1 : decode cX0_copyFrom 1 = .ok (.getfield 11, 3) := by decide +kernel
theorem dX0_copyFrom_4 : decode cX0_copyFrom 4 = .ok (.iconst 0, 1) := by decide +kernel
theorem dX0_copyFrom_5 : decode cX0_copyFrom 5 = .ok (.aload_n 0, 1) := by decide +kernel
theorem dX0_copyFrom_6 : decode cX0_copyFrom 6 = .ok (.getfield 11, 3) := by decide +kernel
theorem dX0_copyFrom_9 : decode cX0_copyFrom 9 = .ok (.iconst 0, 1) := by decide +kernel
theorem dX0_copyFrom_10 : decode cX0_copyFrom 10 = .ok (.aload_n 0, 1) := by decide +kernel
theorem dX0_copyFrom_11 : decode cX0_copyFrom 11 = .ok (.getfield 11, 3) := by decide +kernel
theorem dX0_copyFrom_14 : decode cX0_copyFrom 14 = .ok (.arraylength, 1) := by decide +kernel
theorem dX0_copyFrom_15 : decode cX0_copyFrom 15 = .ok (.invokestatic 39, 3) := by decide +kernel
theorem dX0_copyFrom_18 : decode cX0_copyFrom 18 = .ok (.aload_n 0, 1) := by decide +kernel
theorem dX0_copyFrom_19 : decode cX0_copyFrom 19 = .ok (.aload_n 1, 1) := by decide +kernel
theorem dX0_copyFrom_20 : decode cX0_copyFrom 20 = .ok (.getfield 21, 3) := by decide +kernel
theorem dX0_copyFrom_23 : decode cX0_copyFrom 23 = .ok (.putfield 21, 3) := by decide +kernel
theorem dX0_copyFrom_26 : decode cX0_copyFrom 26 = .ok (.aload_n 0, 1) := by decide +kernel
theorem dX0_copyFrom_27 : decode cX0_copyFrom 27 = .ok (.aload_n 1, 1) := by decide +kernel
theorem dX0_copyFrom_28 : decode cX0_copyFrom 28 = .ok (.getfield 25, 3) := by decide +kernel
theorem dX0_copyFrom_31 : decode cX0_copyFrom 31 = .ok (.putfield 25, 3) := by decide +kernel
theorem dX0_copyFrom_34 : decode cX0_copyFrom 34 = .ok (.return_, 1) := by decide +kernel
theorem dX1_ofPath_0 : decode cX1_ofPath 0 = .ok (.iload_n 0, 1) := by decide +kernel
theorem dX1_ofPath_1 : decode cX1_ofPath 1 = .ok (.ifCond .lt 10, 3) := by decide +kernel
theorem dX1_ofPath_4 : decode cX1_ofPath 4 = .ok (.iload_n 0, 1) := by decide +kernel
theorem dX1_ofPath_5 : decode cX1_ofPath 5 = .ok (.sipush 10000, 3) := by decide +kernel
theorem dX1_ofPath_8 : decode cX1_ofPath 8 = .ok (.if_icmp .lt 5, 3) := by decide +kernel
theorem dX1_ofPath_11 : decode cX1_ofPath 11 = .ok (.iconst (-1), 1) := by decide +kernel
theorem dX1_ofPath_12 : decode cX1_ofPath 12 = .ok (.ireturn, 1) := by decide +kernel
theorem dX1_ofPath_13 : decode cX1_ofPath 13 = .ok (.iconst 0, 1) := by decide +kernel
theorem dX1_ofPath_14 : decode cX1_ofPath 14 = .ok (.istore_n 1, 1) := by decide +kernel
theorem dX1_ofPath_15 : decode cX1_ofPath 15 = .ok (.sipush 1000, 3) := by decide +kernel
theorem dX1_ofPath_18 : decode cX1_ofPath 18 = .ok (.istore_n 2, 1) := by decide +kernel
theorem dX1_ofPath_19 : decode cX1_ofPath 19 = .ok (.iload_n 2, 1) := by decide +kernel
theorem dX1_ofPath_20 : decode cX1_ofPath 20 = .ok (.ifCond .le 41, 3) := by decide +kernel
theorem dX1_ofPath_23 : decode cX1_ofPath 23 = .ok (.iload_n 0, 1) := by decide +kernel
theorem dX1_ofPath_24 : decode cX1_ofPath 24 = .ok (.iload_n 2, 1) := by decide +kernel
theorem dX1_ofPath_25 : decode cX1_ofPath 25 = .ok (.if_icmp .lt 28, 3) := by decide +kernel
theorem dX1_ofPath_28 : decode cX1_ofPath 28 = .ok (.iload_n 0, 1) := by decide +kernel
theorem dX1_ofPath_29 : decode cX1_ofPath 29 = .ok (.iload_n 2, 1) := by decide +kernel
theorem dX1_ofPath_30 : decode cX1_ofPath 30 = .ok (.idiv, 1) := by decide +kernel
theorem dX1_ofPath_31 : decode cX1_ofPath 31 = .ok (.bipush 10, 2) := by decide +kernel
theorem dX1_ofPath_33 : decode cX1_ofPath 33 = .ok (.irem, 1) := by decide +kernel
theorem dX1_ofPath_34 : decode cX1_ofPath 34 = .ok (.istore_n 3, 1) := by decide +kernel
theorem dX1_ofPath_35 : decode cX1_ofPath 35 = .ok (.iload_n 3, 1) := by decide +kernel
theorem dX1_ofPath_36 : decode cX1_ofPath 36 = .ok (.iconst 1, 1) := by decide +kernel
theorem dX1_ofPath_37 : decode cX1_ofPath 37 = .ok (.if_icmp .lt 8, 3) := by decide +kernel
theorem dX1_ofPath_40 : decode cX1_ofPath 40 = .ok (.iload_n 3, 1) := by decide +kernel
theorem dX1_ofPath_41 : decode cX1_ofPath 41 = .ok (.iconst 5, 1) := by decide +kernel
theorem dX1_ofPath_42 : decode cX1_ofPath 42 = .ok (.if_icmp .le 5, 3) := by decide +kernel
theorem dX1_ofPath_45 : decode cX1_ofPath 45 = .ok (.iconst (-1), 1) := by decide +kernel
theorem dX1_ofPath_46 : decode cX1_ofPath 46 = .ok (.ireturn, 1) := by decide +kernel
theorem dX1_ofPath_47 : decode cX1_ofPath 47 = .ok (.iload_n 1, 1) := by decide +kernel
theorem dX1_ofPath_48 : decode cX1_ofPath 48 = .ok (.iload_n 3, 1) := by decide +kernel
theorem dX1_ofPath_49 : decode cX1_ofPath 49 = .ok (.invokestatic 9, 3) := by decide +kernel
theorem dX1_ofPath_52 : decode cX1_ofPath 52 = .ok (.istore_n 1, 1) := by decide +kernel
theorem dX1_ofPath_53 : decode cX1_ofPath 53 = .ok (.iload_n 2, 1) := by decide +kernel
theorem dX1_ofPath_54 : decode cX1_ofPath 54 = .ok (.bipush 10, 2) := by decide +kernel
theorem dX1_ofPath_56 : decode cX1_ofPath 56 = .ok (.idiv, 1) := by decide +kernel
theorem dX1_ofPath_57 : decode cX1_ofPath 57 = .ok (.istore_n 2, 1) := by decide +kernel
theorem dX1_ofPath_58 : decode cX1_ofPath 58 = .ok (.goto (-39), 3) := by decide +kernel
theorem dX1_ofPath_61 : decode cX1_ofPath 61 = .ok (.iload_n 1, 1) := by decide +kernel
theorem dX1_ofPath_62 : decode cX1_ofPath 62 = .ok (.ireturn, 1) := by decide +kernel
theorem dX1_depth_0 : decode cX1_depth 0 = .ok (.iconst 4, 1) := by decide +kernel
theorem dX1_depth_1 : decode cX1_depth 1 = .ok (.istore_n 1, 1) := by decide +kernel
theorem dX1_depth_2 : decode cX1_depth 2 = .ok (.iload_n 1, 1) := by decide +kernel
theorem dX1_depth_3 : decode cX1_depth 3 = .ok (.ifCond .le 18, 3) := by decide +kernel
theorem dX1_depth_6 : decode cX1_depth 6 = .ok (.iload_n 0, 1) := by decide +kernel
theorem dX1_depth_7 : decode cX1_depth 7 = .ok (.getstatic 13, 3) := by decide +kernel
theorem dX1_depth_10 : decode cX1_depth 10 = .ok (.iload_n 1, 1) := by decide +kernel
theorem dX1_depth_11 : decode cX1_depth 11 = .ok (.iaload, 1) := by decide +kernel
theorem dX1_depth_12 : decode cX1_depth 12 = .ok (.if_icmp .ge 9, 3) := by decide +kernel
theorem dX1_depth_15 : decode cX1_depth 15 = .ok (.iinc 1 (-1), 3) := by decide +kernel
theorem dX1_depth_18 : decode cX1_depth 18 = .ok (.goto (-16), 3) := by decide +kernel
theorem dX1_depth_21 : decode cX1_depth 21 = .ok (.iload_n 1, 1) := by decide +kernel
theorem dX1_depth_22 : decode cX1_depth 22 = .ok (.ireturn, 1) := by decide +kernel
theorem dX1_child_0 : decode cX1_child 0 = .ok (.iload_n 0, 1) := by decide +kernel
theorem dX1_child_1 : decode cX1_child 1 = .ok (.iconst 5, 1) := by decide +kernel
theorem dX1_child_2 : decode cX1_child 2 = .ok (.imul, 1) := by decide +kernel
theorem dX1_child_3 : decode cX1_child 3 = .ok (.iload_n 1, 1) := by decide +kernel
theorem dX1_child_4 : decode cX1_child 4 = .ok (.iadd, 1) := by decide +kernel
theorem dX1_child_5 : decode cX1_child 5 = .ok (.ireturn, 1) := by decide +kernel
theorem dX1_parent_0 : decode cX1_parent 0 = .ok (.iload_n 0, 1) := by decide +kernel
theorem dX1_parent_1 : decode cX1_parent 1 = .ok (.iconst 1, 1) := by decide +kernel
theorem dX1_parent_2 : decode cX1_parent 2 = .ok (.invokestatic 17, 3) := by decide +kernel
theorem dX1_parent_5 : decode cX1_parent 5 = .ok (.ireturn, 1) := by decide +kernel
theorem dX1_above_0 : decode cX1_above 0 = .ok (.iload_n 0, 1) := by decide +kernel
theorem dX1_above_1 : decode cX1_above 1 = .ok (.getstatic 13, 3) := by decide +kernel
theorem dX1_above_4 : decode cX1_above 4 = .ok (.iload_n 1, 1) := by decide +kernel
theorem dX1_above_5 : decode cX1_above 5 = .ok (.iaload, 1) := by decide +kernel
theorem dX1_above_6 : decode cX1_above 6 = .ok (.isub, 1) := by decide +kernel
theorem dX1_above_7 : decode cX1_above 7 = .ok (.getstatic 20, 3) := by decide +kernel
theorem dX1_above_10 : decode cX1_above 10 = .ok (.iload_n 1, 1) := by decide +kernel
theorem dX1_above_11 : decode cX1_above 11 = .ok (.iaload, 1) := by decide +kernel
theorem dX1_above_12 : decode cX1_above 12 = .ok (.idiv, 1) := by decide +kernel
theorem dX1_above_13 : decode cX1_above 13 = .ok (.ireturn, 1) := by decide +kernel
theorem dX1_below_0 : decode cX1_below 0 = .ok (.iload_n 0, 1) := by decide +kernel
theorem dX1_below_1 : decode cX1_below 1 = .ok (.getstatic 20, 3) := by decide +kernel
theorem dX1_below_4 : decode cX1_below 4 = .ok (.iload_n 1, 1) := by decide +kernel
theorem dX1_below_5 : decode cX1_below 5 = .ok (.invokestatic 23, 3) := by decide +kernel
theorem dX1_below_8 : decode cX1_below 8 = .ok (.iaload, 1) := by decide +kernel
theorem dX1_below_9 : decode cX1_below 9 = .ok (.imul, 1) := by decide +kernel
theorem dX1_below_10 : decode cX1_below 10 = .ok (.iload_n 1, 1) := by decide +kernel
theorem dX1_below_11 : decode cX1_below 11 = .ok (.iadd, 1) := by decide +kernel
theorem dX1_below_12 : decode cX1_below 12 = .ok (.ireturn, 1) := by decide +kernel
theorem dX1_isBelow_0 : decode cX1_isBelow 0 = .ok (.iload_n 0, 1) := by decide +kernel
theorem dX1_isBelow_1 : decode cX1_isBelow 1 = .ok (.invokestatic 23, 3) := by decide +kernel
theorem dX1_isBelow_4 : decode cX1_isBelow 4 = .ok (.iload_n 1, 1) := by decide +kernel
theorem dX1_isBelow_5 : decode cX1_isBelow 5 = .ok (.invokestatic 23, 3) := by decide +kernel
theorem dX1_isBelow_8 : decode cX1_isBelow 8 = .ok (.isub, 1) := by decide +kernel
theorem dX1_isBelow_9 : decode cX1_isBelow 9 = .ok (.istore_n 2, 1) := by decide +kernel
theorem dX1_isBelow_10 : decode cX1_isBelow 10 = .ok (.iload_n 2, 1) := by decide +kernel
theorem dX1_isBelow_11 : decode cX1_isBelow 11 = .ok (.ifCond .le 16, 3) := by decide +kernel
theorem dX1_isBelow_14 : decode cX1_isBelow 14 = .ok (.iload_n 0, 1) := by decide +kernel
theorem dX1_isBelow_15 : decode cX1_isBelow 15 = .ok (.iload_n 2, 1) := by decide +kernel
theorem dX1_isBelow_16 : decode cX1_isBelow 16 = .ok (.invokestatic 17, 3) := by decide +kernel
theorem dX1_isBelow_19 : decode cX1_isBelow 19 = .ok (.iload_n 1, 1) := by decide +kernel
theorem dX1_isBelow_20 : decode cX1_isBelow 20 = .ok (.if_icmp .ne 7, 3) := by decide +kernel
theorem dX1_isBelow_23 : decode cX1_isBelow 23 = .ok (.iconst 1, 1) := by decide +kernel
theorem dX1_isBelow_24 : decode cX1_isBelow 24 = .ok (.goto 4, 3) := by decide +kernel
theorem dX1_isBelow_27 : decode cX1_isBelow 27 = .ok (.iconst 0, 1) := by decide +kernel
theorem dX1_isBelow_28 : decode cX1_isBelow 28 = .ok (.ireturn, 1) := by decide +kernel
end
section
theorem dX3_init_0 : decode cX3_init 0 = .ok (.aload_n 0, 1) := by decide +kernel
theorem dX3_init_1 : decode cX3_init 1 = .ok (.invokespecial 1, 3) := by decide +kernel
theorem dX3_init_4 : decode cX3_init 4 = .ok (.aload_n 0, 1) := by decide +kernel
theorem dX3_init_5 : decode cX3_init 5 = .ok (.sipush 5184, 3) := by decide +kernel
theorem dX3_init_8 : decode cX3_init 8 = .ok (.newarray .int, 2) := by decide +kernel
theorem dX3_init_10 : decode cX3_init 10 = .ok (.putfield 7, 3) := by decide +kernel
theorem dX3_init_13 : decode cX3_init 13 = .ok (.aload_n 0, 1) := by decide +kernel
theorem dX3_init_14 : decode cX3_init 14 = .ok (.sipush 5184, 3) := by decide +kernel
theorem dX3_init_17 : decode cX3_init 17 = .ok (.newarray .int, 2) := by decide +kernel
theorem dX3_init_19 : decode cX3_init 19 = .ok (.putfield 13, 3) := by decide +kernel
theorem dX3_init_22 : decode cX3_init 22 = .ok (.aload_n 0, 1) := by decide +kernel
theorem dX3_init_23 : decode cX3_init 23 = .ok (.sipush 1296, 3) := by decide +kernel
theorem dX3_init_26 : decode cX3_init 26 = .ok (.newarray .int, 2) := by decide +kernel
theorem dX3_init_28 : decode cX3_init 28 = .ok (.putfield 16, 3) := by decide +kernel
theorem dX3_init_31 : decode cX3_init 31 = .ok (.aload_n 0, 1) := by decide +kernel
theorem dX3_init_32 : decode cX3_init 32 = .ok (.sipush 1296, 3) := by decide +kernel
theorem dX3_init_35 : decode cX3_init 35 = .ok (.newarray .int, 2) := by decide +kernel
theorem dX3_init_37 : decode cX3_init 37 = .ok (.putfield 19, 3) := by decide +kernel
theorem dX3_init_40 : decode cX3_init 40 = .ok (.aload_n 0, 1) := by decide +kernel
theorem dX3_init_41 : decode cX3_init 41 = .ok (.bipush 96, 2) := by decide +kernel
theorem dX3_init_43 : decode cX3_init 43 = .ok (.newarray .int, 2) := by decide +kernel
theorem dX3_init_45 : decode cX3_init 45 = .ok (.putfield 22, 3) := by decide +kernel
theorem dX3_init_48 : decode cX3_init 48 = .ok (.aload_n 0, 1) := by decide +kernel
theorem dX3_init_49 : decode cX3_init 49 = .ok (.bipush 96, 2) := by decide +kernel
theorem dX3_init_51 : decode cX3_init 51 = .ok (.newarray .int, 2) := by decide +kernel
theorem dX3_init_53 : decode cX3_init 53 = .ok (.putfield 25, 3) := by decide +kernel
theorem dX3_init_56 : decode cX3_init 56 = .ok (.aload_n 0, 1) := by decide +kernel
theorem dX3_init_57 : decode cX3_init 57 = .ok (.bipush 96, 2) := by decide +kernel
theorem dX3_init_59 : decode cX3_init 59 = .ok (.newarray .int, 2) := by decide +kernel
theorem dX3_init_61 : decode cX3_init 61 = .ok (.putfield 28, 3) := by decide +kernel
theorem dX3_init_64 : decode cX3_init 64 = .ok (.aload_n 0, 1) := by decide +kernel
theorem dX3_init_65 : decode cX3_init 65 = .ok (.iload_n 1, 1) := by decide +kernel
theorem dX3_init_66 : decode cX3_init 66 = .ok (.iconst 1, 1) := by decide +kernel
theorem dX3_init_67 : decode cX3_init 67 = .ok (.if_icmp .ge 7, 3) := by decide +kernel
theorem dX3_init_70 : decode cX3_init 70 = .ok (.iconst 1, 1) := by decide +kernel
theorem dX3_init_71 : decode cX3_init 71 = .ok (.goto 13, 3) := by decide +kernel
theorem dX3_init_74 : decode cX3_init 74 = .ok (.iload_n 1, 1) := by decide +kernel
theorem dX3_init_75 : decode cX3_init 75 = .ok (.iconst 3, 1) := by decide +kernel
theorem dX3_init_76 : decode cX3_init 76 = .ok (.if_icmp .le 7, 3) := by decide +kernel
theorem dX3_init_79 : decode cX3_init 79 = .ok (.iconst 3, 1) := by decide +kernel
theorem dX3_init_80 : decode cX3_init 80 = .ok (.goto 4, 3) := by decide +kernel
theorem dX3_init_83 : decode cX3_init 83 = .ok (.iload_n 1, 1) := by decide +kernel
theorem dX3_init_84 : decode cX3_init 84 = .ok (.putfield 31, 3) := by decide +kernel
theorem dX3_init_87 : decode cX3_init 87 = .ok (.return_, 1) := by decide +kernel
theorem dX3_placeOf_0 : decode cX3_placeOf 0 = .ok (.iload_n 0, 1) := by decide +kernel
theorem dX3_placeOf_1 : decode cX3_placeOf 1 = .ok (.ifCond .lt 10, 3) := by decide +kernel
theorem dX3_placeOf_4 : decode cX3_placeOf 4 = .ok (.iload_n 0, 1) := by decide +kernel
theorem dX3_placeOf_5 : decode cX3_placeOf 5 = .ok (.sipush 5555, 3) := by decide +kernel
theorem dX3_placeOf_8 : decode cX3_placeOf 8 = .ok (.if_icmp .le 5, 3) := by decide +kernel
theorem dX3_placeOf_11 : decode cX3_placeOf 11 = .ok (.iconst (-1), 1) := by decide +kernel
theorem dX3_placeOf_12 : decode cX3_placeOf 12 = .ok (.ireturn, 1) := by decide +kernel
theorem dX3_placeOf_13 : decode cX3_placeOf 13 = .ok (.iconst 0, 1) := by decide +kernel
theorem dX3_placeOf_14 : decode cX3_placeOf 14 = .ok (.istore_n 1, 1) := by decide +kernel
theorem dX3_placeOf_15 : decode cX3_placeOf 15 = .ok (.sipush 1000, 3) := by decide +kernel
theorem dX3_placeOf_18 : decode cX3_placeOf 18 = .ok (.istore_n 2, 1) := by decide +kernel
theorem dX3_placeOf_19 : decode cX3_placeOf 19 = .ok (.iload_n 2, 1) := by decide +kernel
theorem dX3_placeOf_20 : decode cX3_placeOf 20 = .ok (.ifCond .le 42, 3) := by decide +kernel
theorem dX3_placeOf_23 : decode cX3_placeOf 23 = .ok (.iload_n 0, 1) := by decide +kernel
theorem dX3_placeOf_24 : decode cX3_placeOf 24 = .ok (.iload_n 2, 1) := by decide +kernel
theorem dX3_placeOf_25 : decode cX3_placeOf 25 = .ok (.idiv, 1) := by decide +kernel
theorem dX3_placeOf_26 : decode cX3_placeOf 26 = .ok (.bipush 10, 2) := by decide +kernel
theorem dX3_placeOf_28 : decode cX3_placeOf 28 = .ok (.irem, 1) := by decide +kernel
theorem dX3_placeOf_29 : decode cX3_placeOf 29 = .ok (.istore_n 3, 1) := by decide +kernel
theorem dX3_placeOf_30 : decode cX3_placeOf 30 = .ok (.iload_n 0, 1) := by decide +kernel
theorem dX3_placeOf_31 : decode cX3_placeOf 31 = .ok (.iload_n 2, 1) := by decide +kernel
theorem dX3_placeOf_32 : decode cX3_placeOf 32 = .ok (.if_icmp .lt 15, 3) := by decide +kernel
theorem dX3_placeOf_35 : decode cX3_placeOf 35 = .ok (.iload_n 3, 1) := by decide +kernel
theorem dX3_placeOf_36 : decode cX3_placeOf 36 = .ok (.iconst 1, 1) := by decide +kernel
theorem dX3_placeOf_37 : decode cX3_placeOf 37 = .ok (.if_icmp .lt 8, 3) := by decide +kernel
theorem dX3_placeOf_40 : decode cX3_placeOf 40 = .ok (.iload_n 3, 1) := by decide +kernel
theorem dX3_placeOf_41 : decode cX3_placeOf 41 = .ok (.iconst 5, 1) := by decide +kernel
theorem dX3_placeOf_42 : decode cX3_placeOf 42 = .ok (.if_icmp .le 5, 3) := by decide +kernel
theorem dX3_placeOf_45 : decode cX3_placeOf 45 = .ok (.iconst (-1), 1) := by decide +kernel
theorem dX3_placeOf_46 : decode cX3_placeOf 46 = .ok (.ireturn, 1) := by decide +kernel
theorem dX3_placeOf_47 : decode cX3_placeOf 47 = .ok (.bipush 6, 2) := by decide +kernel
theorem dX3_placeOf_49 : decode cX3_placeOf 49 = .ok (.iload_n 1, 1) := by decide +kernel
theorem dX3_placeOf_50 : decode cX3_placeOf 50 = .ok (.imul, 1) := by decide +kernel
theorem dX3_placeOf_51 : decode cX3_placeOf 51 = .ok (.iload_n 3, 1) := by decide +kernel
theorem dX3_placeOf_52 : decode cX3_placeOf 52 = .ok (.iadd, 1) := by decide +kernel
theorem dX3_placeOf_53 : decode cX3_placeOf 53 = .ok (.istore_n 1, 1) := by decide +kernel
theorem dX3_placeOf_54 : decode cX3_placeOf 54 = .ok (.iload_n 2, 1) := by decide +kernel
theorem dX3_placeOf_55 : decode cX3_placeOf 55 = .ok (.bipush 10, 2) := by decide +kernel
theorem dX3_placeOf_57 : decode cX3_placeOf 57 = .ok (.idiv, 1) := by decide +kernel
theorem dX3_placeOf_58 : decode cX3_placeOf 58 = .ok (.istore_n 2, 1) := by decide +kernel
theorem dX3_placeOf_59 : decode cX3_placeOf 59 = .ok (.goto (-40), 3) := by decide +kernel
theorem dX3_placeOf_62 : decode cX3_placeOf 62 = .ok (.iload_n 1, 1) := by decide +kernel
theorem dX3_placeOf_63 : decode cX3_placeOf 63 = .ok (.ireturn, 1) := by decide +kernel
theorem dX3_depth_0 : decode cX3_depth 0 = .ok (.iload_n 0, 1) := by decide +kernel
theorem dX3_depth_1 : decode cX3_depth 1 = .ok (.ifCond .ne 7, 3) := by decide +kernel
theorem dX3_depth_4 : decode cX3_depth 4 = .ok (.iconst 0, 1) := by decide +kernel
theorem dX3_depth_5 : decode cX3_depth 5 = .ok (.goto 35, 3) := by decide +kernel
theorem dX3_depth_8 : decode cX3_depth 8 = .ok (.iload_n 0, 1) := by decide +kernel
theorem dX3_depth_9 : decode cX3_depth 9 = .ok (.bipush 6, 2) := by decide +kernel
theorem dX3_depth_11 : decode cX3_depth 11 = .ok (.if_icmp .ge 7, 3) := by decide +kernel
theorem dX3_depth_14 : decode cX3_depth 14 = .ok (.iconst 1, 1) := by decide +kernel
theorem dX3_depth_15 : decode cX3_depth 15 = .ok (.goto 25, 3) := by decide +kernel
theorem dX3_depth_18 : decode cX3_depth 18 = .ok (.iload_n 0, 1) := by decide +kernel
theorem dX3_depth_19 : decode cX3_depth 19 = .ok (.bipush 36, 2) := by decide +kernel
theorem dX3_depth_21 : decode cX3_depth 21 = .ok (.if_icmp .ge 7, 3) := by decide +kernel
theorem dX3_depth_24 : decode cX3_depth 24 = .ok (.iconst 2, 1) := by decide +kernel
theorem dX3_depth_25 : decode cX3_depth 25 = .ok (.goto 15, 3) := by decide +kernel
theorem dX3_depth_28 : decode cX3_depth 28 = .ok (.iload_n 0, 1) := by decide +kernel
theorem dX3_depth_29 : decode cX3_depth 29 = .ok (.sipush 216, 3) := by decide +kernel
theorem dX3_depth_32 : decode cX3_depth 32 = .ok (.if_icmp .ge 7, 3) := by decide +kernel
theorem dX3_depth_35 : decode cX3_depth 35 = .ok (.iconst 3, 1) := by decide +kernel
theorem dX3_depth_36 : decode cX3_depth 36 = .ok (.goto 4, 3) := by decide +kernel
theorem dX3_depth_39 : decode cX3_depth 39 = .ok (.iconst 4, 1) := by decide +kernel
theorem dX3_depth_40 : decode cX3_depth 40 = .ok (.ireturn, 1) := by decide +kernel
theorem dX3_without_0 : decode cX3_without 0 = .ok (.iload_n 0, 1) := by decide +kernel
theorem dX3_without_1 : decode cX3_without 1 = .ok (.istore_n 2, 1) := by decide +kernel
theorem dX3_without_2 : decode cX3_without 2 = .ok (.iconst 0, 1) := by decide +kernel
theorem dX3_without_3 : decode cX3_without 3 = .ok (.istore_n 3, 1) := by decide +kernel
theorem dX3_without_4 : decode cX3_without 4 = .ok (.iload_n 3, 1) := by decide +kernel
theorem dX3_without_5 : decode cX3_without 5 = .ok (.iload_n 1, 1) := by decide +kernel
theorem dX3_without_6 : decode cX3_without 6 = .ok (.if_icmp .ge 14, 3) := by decide +kernel
theorem dX3_without_9 : decode cX3_without 9 = .ok (.iload_n 2, 1) := by decide +kernel
theorem dX3_without_10 : decode cX3_without 10 = .ok (.bipush 6, 2) := by decide +kernel
theorem dX3_without_12 : decode cX3_without 12 = .ok (.idiv, 1) := by decide +kernel
theorem dX3_without_13 : decode cX3_without 13 = .ok (.istore_n 2, 1) := by decide +kernel
theorem dX3_without_14 : decode cX3_without 14 = .ok (.iinc 3 1, 3) := by decide +kernel
theorem dX3_without_17 : decode cX3_without 17 = .ok (.goto (-13), 3) := by decide +kernel
theorem dX3_without_20 : decode cX3_without 20 = .ok (.iload_n 2, 1) := by decide +kernel
theorem dX3_without_21 : decode cX3_without 21 = .ok (.ireturn, 1) := by decide +kernel
theorem dX3_isPath_0 : decode cX3_isPath 0 = .ok (.iload_n 0, 1) := by decide +kernel
theorem dX3_isPath_1 : decode cX3_isPath 1 = .ok (.ifCond .le 7, 3) := by decide +kernel
theorem dX3_isPath_4 : decode cX3_isPath 4 = .ok (.iconst 1, 1) := by decide +kernel
theorem dX3_isPath_5 : decode cX3_isPath 5 = .ok (.goto 4, 3) := by decide +kernel
theorem dX3_isPath_8 : decode cX3_isPath 8 = .ok (.iconst 0, 1) := by decide +kernel
theorem dX3_isPath_9 : decode cX3_isPath 9 = .ok (.istore_n 1, 1) := by decide +kernel
theorem dX3_isPath_10 : decode cX3_isPath 10 = .ok (.iload_n 0, 1) := by decide +kernel
theorem dX3_isPath_11 : decode cX3_isPath 11 = .ok (.istore_n 2, 1) := by decide +kernel
theorem dX3_isPath_12 : decode cX3_isPath 12 = .ok (.iload_n 2, 1) := by decide +kernel
theorem dX3_isPath_13 : decode cX3_isPath 13 = .ok (.ifCond .le 28, 3) := by decide +kernel
theorem dX3_isPath_16 : decode cX3_isPath 16 = .ok (.iload_n 1, 1) := by decide +kernel
theorem dX3_isPath_17 : decode cX3_isPath 17 = .ok (.ifCond .eq 14, 3) := by decide +kernel
theorem dX3_isPath_20 : decode cX3_isPath 20 = .ok (.iload_n 2, 1) := by decide +kernel
theorem dX3_isPath_21 : decode cX3_isPath 21 = .ok (.bipush 6, 2) := by decide +kernel
theorem dX3_isPath_23 : decode cX3_isPath 23 = .ok (.irem, 1) := by decide +kernel
theorem dX3_isPath_24 : decode cX3_isPath 24 = .ok (.ifCond .le 7, 3) := by decide +kernel
theorem dX3_isPath_27 : decode cX3_isPath 27 = .ok (.iconst 1, 1) := by decide +kernel
theorem dX3_isPath_28 : decode cX3_isPath 28 = .ok (.goto 4, 3) := by decide +kernel
theorem dX3_isPath_31 : decode cX3_isPath 31 = .ok (.iconst 0, 1) := by decide +kernel
theorem dX3_isPath_32 : decode cX3_isPath 32 = .ok (.istore_n 1, 1) := by decide +kernel
theorem dX3_isPath_33 : decode cX3_isPath 33 = .ok (.iload_n 2, 1) := by decide +kernel
theorem dX3_isPath_34 : decode cX3_isPath 34 = .ok (.bipush 6, 2) := by decide +kernel
theorem dX3_isPath_36 : decode cX3_isPath 36 = .ok (.idiv, 1) := by decide +kernel
theorem dX3_isPath_37 : decode cX3_isPath 37 = .ok (.istore_n 2, 1) := by decide +kernel
theorem dX3_isPath_38 : decode cX3_isPath 38 = .ok (.goto (-26), 3) := by decide +kernel
theorem dX3_isPath_41 : decode cX3_isPath 41 = .ok (.iload_n 1, 1) := by decide +kernel
theorem dX3_isPath_42 : decode cX3_isPath 42 = .ok (.ireturn, 1) := by decide +kernel
theorem dX3_isBelow_0 : decode cX3_isBelow 0 = .ok (.iload_n 0, 1) := by decide +kernel
theorem dX3_isBelow_1 : decode cX3_isBelow 1 = .ok (.invokestatic 35, 3) := by decide +kernel
theorem dX3_isBelow_4 : decode cX3_isBelow 4 = .ok (.iload_n 1, 1) := by decide +kernel
theorem dX3_isBelow_5 : decode cX3_isBelow 5 = .ok (.invokestatic 35, 3) := by decide +kernel
theorem dX3_isBelow_8 : decode cX3_isBelow 8 = .ok (.isub, 1) := by decide +kernel
theorem dX3_isBelow_9 : decode cX3_isBelow 9 = .ok (.istore_n 2, 1) := by decide +kernel
theorem dX3_isBelow_10 : decode cX3_isBelow 10 = .ok (.iload_n 2, 1) := by decide +kernel
theorem dX3_isBelow_11 : decode cX3_isBelow 11 = .ok (.ifCond .le 16, 3) := by decide +kernel
theorem dX3_isBelow_14 : decode cX3_isBelow 14 = .ok (.iload_n 0, 1) := by decide +kernel
theorem dX3_isBelow_15 : decode cX3_isBelow 15 = .ok (.iload_n 2, 1) := by decide +kernel
theorem dX3_isBelow_16 : decode cX3_isBelow 16 = .ok (.invokestatic 39, 3) := by decide +kernel
theorem dX3_isBelow_19 : decode cX3_isBelow 19 = .ok (.iload_n 1, 1) := by decide +kernel
theorem dX3_isBelow_20 : decode cX3_isBelow 20 = .ok (.if_icmp .ne 7, 3) := by decide +kernel
theorem dX3_isBelow_23 : decode cX3_isBelow 23 = .ok (.iconst 1, 1) := by decide +kernel
theorem dX3_isBelow_24 : decode cX3_isBelow 24 = .ok (.goto 4, 3) := by decide +kernel
theorem dX3_isBelow_27 : decode cX3_isBelow 27 = .ok (.iconst 0, 1) := by decide +kernel
theorem dX3_isBelow_28 : decode cX3_isBelow 28 = .ok (.ireturn, 1) := by decide +kernel
theorem dX3_resolve_0 : decode cX3_resolve 0 = .ok (.aload_n 0, 1) := by decide +kernel
theorem dX3_resolve_1 : decode cX3_resolve 1 = .ok (.iconst 0, 1) := by decide +kernel
theorem dX3_resolve_2 : decode cX3_resolve 2 = .ok (.putfield 43, 3) := by decide +kernel
theorem dX3_resolve_5 : decode cX3_resolve 5 = .ok (.aload_n 0, 1) := by decide +kernel
theorem dX3_resolve_6 : decode cX3_resolve 6 = .ok (.iconst 0, 1) := by decide +kernel
theorem dX3_resolve_7 : decode cX3_resolve 7 = .ok (.putfield 46, 3) := by decide +kernel
theorem dX3_resolve_10 : decode cX3_resolve 10 = .ok (.aload_n 0, 1) := by decide +kernel
theorem dX3_resolve_11 : decode cX3_resolve 11 = .ok (.iconst (-1), 1) := by decide +kernel
theorem dX3_resolve_12 : decode cX3_resolve 12 = .ok (.putfield 49, 3) := by decide +kernel
theorem dX3_resolve_15 : decode cX3_resolve 15 = .ok (.aload_n 0, 1) := by decide +kernel
theorem dX3_resolve_16 : decode cX3_resolve 16 = .ok (.iconst 0, 1) := by decide +kernel
theorem dX3_resolve_17 : decode cX3_resolve 17 = .ok (.putfield 52, 3) := by decide +kernel
theorem dX3_resolve_20 : decode cX3_resolve 20 = .ok (.iload_n 3, 1) := by decide +kernel
theorem dX3_resolve_21 : decode cX3_resolve 21 = .ok (.iconst 1, 1) := by decide +kernel
theorem dX3_resolve_22 : decode cX3_resolve 22 = .ok (.isub, 1) := by decide +kernel
theorem dX3_resolve_23 : decode cX3_resolve 23 = .ok (.istore 4, 2) := by decide +kernel
theorem dX3_resolve_25 : decode cX3_resolve 25 = .ok (.iload 4, 2) := by decide +kernel
theorem dX3_resolve_27 : decode cX3_resolve 27 = .ok (.ifCond .lt 146, 3) := by decide +kernel
theorem dX3_resolve_30 : decode cX3_resolve 30 = .ok (.iload_n 2, 1) := by decide +kernel
theorem dX3_resolve_31 : decode cX3_resolve 31 = .ok (.iload 4, 2) := by decide +kernel
theorem dX3_resolve_33 : decode cX3_resolve 33 = .ok (.ishr, 1) := by decide +kernel
theorem dX3_resolve_34 : decode cX3_resolve 34 = .ok (.iconst 1, 1) := by decide +kernel
theorem dX3_resolve_35 : decode cX3_resolve 35 = .ok (.iand, 1) := by decide +kernel
theorem dX3_resolve_36 : decode cX3_resolve 36 = .ok (.iconst 1, 1) := by decide +kernel
theorem dX3_resolve_37 : decode cX3_resolve 37 = .ok (.if_icmp .ne 19, 3) := by decide +kernel
theorem dX3_resolve_40 : decode cX3_resolve 40 = .ok (.aload_n 0, 1) := by decide +kernel
theorem dX3_resolve_41 : decode cX3_resolve 41 = .ok (.getfield 7, 3) := by decide +kernel
theorem dX3_resolve_44 : decode cX3_resolve 44 = .ok (.sipush 1296, 3) := by decide +kernel
theorem dX3_resolve_47 : decode cX3_resolve 47 = .ok (.iload 4, 2) := by decide +kernel
theorem dX3_resolve_49 : decode cX3_resolve 49 = .ok (.imul, 1) := by decide +kernel
theorem dX3_resolve_50 : decode cX3_resolve 50 = .ok (.iload_n 1, 1) := by decide +kernel
theorem dX3_resolve_51 : decode cX3_resolve 51 = .ok (.iadd, 1) := by decide +kernel
theorem dX3_resolve_52 : decode cX3_resolve 52 = .ok (.iaload, 1) := by decide +kernel
theorem dX3_resolve_53 : decode cX3_resolve 53 = .ok (.goto 4, 3) := by decide +kernel
theorem dX3_resolve_56 : decode cX3_resolve 56 = .ok (.iconst 0, 1) := by decide +kernel
theorem dX3_resolve_57 : decode cX3_resolve 57 = .ok (.istore 5, 2) := by decide +kernel
theorem dX3_resolve_59 : decode cX3_resolve 59 = .ok (.iload 5, 2) := by decide +kernel
theorem dX3_resolve_61 : decode cX3_resolve 61 = .ok (.ifCond .le 68, 3) := by decide +kernel
theorem dX3_resolve_64 : decode cX3_resolve 64 = .ok (.aload_n 0, 1) := by decide +kernel
theorem dX3_resolve_65 : decode cX3_resolve 65 = .ok (.getfield 49, 3) := by decide +kernel
theorem dX3_resolve_68 : decode cX3_resolve 68 = .ok (.ifCond .ge 61, 3) := by decide +kernel
theorem dX3_resolve_71 : decode cX3_resolve 71 = .ok (.aload_n 0, 1) := by decide +kernel
theorem dX3_resolve_72 : decode cX3_resolve 72 = .ok (.iload 4, 2) := by decide +kernel
theorem dX3_resolve_74 : decode cX3_resolve 74 = .ok (.putfield 49, 3) := by decide +kernel
theorem dX3_resolve_77 : decode cX3_resolve 77 = .ok (.aload_n 0, 1) := by decide +kernel
theorem dX3_resolve_78 : decode cX3_resolve 78 = .ok (.iload 5, 2) := by decide +kernel
theorem dX3_resolve_80 : decode cX3_resolve 80 = .ok (.iconst 1, 1) := by decide +kernel
theorem dX3_resolve_81 : decode cX3_resolve 81 = .ok (.if_icmp .ne 7, 3) := by decide +kernel
theorem dX3_resolve_84 : decode cX3_resolve 84 = .ok (.iconst 1, 1) := by decide +kernel
theorem dX3_resolve_85 : decode cX3_resolve 85 = .ok (.goto 14, 3) := by decide +kernel
theorem dX3_resolve_88 : decode cX3_resolve 88 = .ok (.iload 5, 2) := by decide +kernel
theorem dX3_resolve_90 : decode cX3_resolve 90 = .ok (.iconst 4, 1) := by decide +kernel
theorem dX3_resolve_91 : decode cX3_resolve 91 = .ok (.if_icmp .ne 7, 3) := by decide +kernel
theorem dX3_resolve_94 : decode cX3_resolve 94 = .ok (.iconst 0, 1) := by decide +kernel
theorem dX3_resolve_95 : decode cX3_resolve 95 = .ok (.goto 4, 3) := by decide +kernel
theorem dX3_resolve_98 : decode cX3_resolve 98 = .ok (.iconst 2, 1) := by decide +kernel
theorem dX3_resolve_99 : decode cX3_resolve 99 = .ok (.putfield 43, 3) := by decide +kernel
theorem dX3_resolve_102 : decode cX3_resolve 102 = .ok (.aload_n 0, 1) := by decide +kernel
theorem dX3_resolve_103 : decode cX3_resolve 103 = .ok (.iload 5, 2) := by decide +kernel
theorem dX3_resolve_105 : decode cX3_resolve 105 = .ok (.iconst 1, 1) := by decide +kernel
theorem dX3_resolve_106 : decode cX3_resolve 106 = .ok (.if_icmp .ne 19, 3) := by decide +kernel
theorem dX3_resolve_109 : decode cX3_resolve 109 = .ok (.aload_n 0, 1) := by decide +kernel
theorem dX3_resolve_110 : decode cX3_resolve 110 = .ok (.getfield 13, 3) := by decide +kernel
theorem dX3_resolve_113 : decode cX3_resolve 113 = .ok (.sipush 1296, 3) := by decide +kernel
theorem dX3_resolve_116 : decode cX3_resolve 116 = .ok (.iload 4, 2) := by decide +kernel
theorem dX3_resolve_118 : decode cX3_resolve 118 = .ok (.imul, 1) := by decide +kernel
theorem dX3_resolve_119 : decode cX3_resolve 119 = .ok (.iload_n 1, 1) := by decide +kernel
theorem dX3_resolve_120 : decode cX3_resolve 120 = .ok (.iadd, 1) := by decide +kernel
theorem dX3_resolve_121 : decode cX3_resolve 121 = .ok (.iaload, 1) := by decide +kernel
theorem dX3_resolve_122 : decode cX3_resolve 122 = .ok (.goto 4, 3) := by decide +kernel
theorem dX3_resolve_125 : decode cX3_resolve 125 = .ok (.iconst 0, 1) := by decide +kernel
theorem dX3_resolve_126 : decode cX3_resolve 126 = .ok (.putfield 52, 3) := by decide +kernel
theorem dX3_resolve_129 : decode cX3_resolve 129 = .ok (.iload 5, 2) := by decide +kernel
theorem dX3_resolve_131 : decode cX3_resolve 131 = .ok (.iconst 2, 1) := by decide +kernel
theorem dX3_resolve_132 : decode cX3_resolve 132 = .ok (.if_icmp .eq 9, 3) := by decide +kernel
theorem dX3_resolve_135 : decode cX3_resolve 135 = .ok (.iload 5, 2) := by decide +kernel
theorem dX3_resolve_137 : decode cX3_resolve 137 = .ok (.iconst 3, 1) := by decide +kernel
theorem dX3_resolve_138 : decode cX3_resolve 138 = .ok (.if_icmp .ne 16, 3) := by decide +kernel
theorem dX3_resolve_141 : decode cX3_resolve 141 = .ok (.aload_n 0, 1) := by decide +kernel
theorem dX3_resolve_142 : decode cX3_resolve 142 = .ok (.dup, 1) := by decide +kernel
theorem dX3_resolve_143 : decode cX3_resolve 143 = .ok (.getfield 46, 3) := by decide +kernel
theorem dX3_resolve_146 : decode cX3_resolve 146 = .ok (.iconst 1, 1) := by decide +kernel
theorem dX3_resolve_147 : decode cX3_resolve 147 = .ok (.iload 4, 2) := by decide +kernel
theorem dX3_resolve_149 : decode cX3_resolve 149 = .ok (.ishl, 1) := by decide +kernel
theorem dX3_resolve_150 : decode cX3_resolve 150 = .ok (.ior, 1) := by decide +kernel
theorem dX3_resolve_151 : decode cX3_resolve 151 = .ok (.putfield 46, 3) := by decide +kernel
theorem dX3_resolve_154 : decode cX3_resolve 154 = .ok (.iload 5, 2) := by decide +kernel
theorem dX3_resolve_156 : decode cX3_resolve 156 = .ok (.iconst 1, 1) := by decide +kernel
theorem dX3_resolve_157 : decode cX3_resolve 157 = .ok (.if_icmp .eq 9, 3) := by decide +kernel
theorem dX3_resolve_160 : decode cX3_resolve 160 = .ok (.iload 5, 2) := by decide +kernel
theorem dX3_resolve_162 : decode cX3_resolve 162 = .ok (.iconst 2, 1) := by decide +kernel
theorem dX3_resolve_163 : decode cX3_resolve 163 = .ok (.if_icmp .le 4, 3) := by decide +kernel
theorem dX3_resolve_166 : decode cX3_resolve 166 = .ok (.return_, 1) := by decide +kernel
theorem dX3_resolve_167 : decode cX3_resolve 167 = .ok (.iinc 4 (-1), 3) := by decide +kernel
theorem dX3_resolve_170 : decode cX3_resolve 170 = .ok (.goto (-145), 3) := by decide +kernel
theorem dX3_resolve_173 : decode cX3_resolve 173 = .ok (.return_, 1) := by decide +kernel
theorem dX3_look_0 : decode cX3_look 0 = .ok (.aload_n 0, 1) := by decide +kernel
theorem dX3_look_1 : decode cX3_look 1 = .ok (.iconst 2, 1) := by decide +kernel
theorem dX3_look_2 : decode cX3_look 2 = .ok (.putfield 43, 3) := by decide +kernel
theorem dX3_look_5 : decode cX3_look 5 = .ok (.aload_n 0, 1) := by decide +kernel
theorem dX3_look_6 : decode cX3_look 6 = .ok (.iconst 1, 1) := by decide +kernel
theorem dX3_look_7 : decode cX3_look 7 = .ok (.aload_n 0, 1) := by decide +kernel
theorem dX3_look_8 : decode cX3_look 8 = .ok (.getfield 31, 3) := by decide +kernel
theorem dX3_look_11 : decode cX3_look 11 = .ok (.iconst 1, 1) := by decide +kernel
theorem dX3_look_12 : decode cX3_look 12 = .ok (.iadd, 1) := by decide +kernel
theorem dX3_look_13 : decode cX3_look 13 = .ok (.ishl, 1) := by decide +kernel
theorem dX3_look_14 : decode cX3_look 14 = .ok (.iconst 1, 1) := by decide +kernel
theorem dX3_look_15 : decode cX3_look 15 = .ok (.isub, 1) := by decide +kernel
theorem dX3_look_16 : decode cX3_look 16 = .ok (.putfield 46, 3) := by decide +kernel
theorem dX3_look_19 : decode cX3_look 19 = .ok (.aload_n 0, 1) := by decide +kernel
theorem dX3_look_20 : decode cX3_look 20 = .ok (.iconst (-1), 1) := by decide +kernel
theorem dX3_look_21 : decode cX3_look 21 = .ok (.putfield 49, 3) := by decide +kernel
theorem dX3_look_24 : decode cX3_look 24 = .ok (.iload_n 1, 1) := by decide +kernel
theorem dX3_look_25 : decode cX3_look 25 = .ok (.invokestatic 35, 3) := by decide +kernel
theorem dX3_look_28 : decode cX3_look 28 = .ok (.iconst 1, 1) := by decide +kernel
theorem dX3_look_29 : decode cX3_look 29 = .ok (.isub, 1) := by decide +kernel
theorem dX3_look_30 : decode cX3_look 30 = .ok (.istore_n 2, 1) := by decide +kernel
theorem dX3_look_31 : decode cX3_look 31 = .ok (.iload_n 2, 1) := by decide +kernel
theorem dX3_look_32 : decode cX3_look 32 = .ok (.ifCond .lt 42, 3) := by decide +kernel
theorem dX3_look_35 : decode cX3_look 35 = .ok (.aload_n 0, 1) := by decide +kernel
theorem dX3_look_36 : decode cX3_look 36 = .ok (.getfield 43, 3) := by decide +kernel
theorem dX3_look_39 : decode cX3_look 39 = .ok (.iconst 2, 1) := by decide +kernel
theorem dX3_look_40 : decode cX3_look 40 = .ok (.if_icmp .ne 10, 3) := by decide +kernel
theorem dX3_look_43 : decode cX3_look 43 = .ok (.aload_n 0, 1) := by decide +kernel
theorem dX3_look_44 : decode cX3_look 44 = .ok (.getfield 46, 3) := by decide +kernel
theorem dX3_look_47 : decode cX3_look 47 = .ok (.goto 4, 3) := by decide +kernel
theorem dX3_look_50 : decode cX3_look 50 = .ok (.iconst 0, 1) := by decide +kernel
theorem dX3_look_51 : decode cX3_look 51 = .ok (.istore_n 3, 1) := by decide +kernel
theorem dX3_look_52 : decode cX3_look 52 = .ok (.aload_n 0, 1) := by decide +kernel
theorem dX3_look_53 : decode cX3_look 53 = .ok (.iload_n 1, 1) := by decide +kernel
theorem dX3_look_54 : decode cX3_look 54 = .ok (.iload_n 2, 1) := by decide +kernel
theorem dX3_look_55 : decode cX3_look 55 = .ok (.invokestatic 39, 3) := by decide +kernel
theorem dX3_look_58 : decode cX3_look 58 = .ok (.iload_n 3, 1) := by decide +kernel
theorem dX3_look_59 : decode cX3_look 59 = .ok (.aload_n 0, 1) := by decide +kernel
theorem dX3_look_60 : decode cX3_look 60 = .ok (.getfield 31, 3) := by decide +kernel
theorem dX3_look_63 : decode cX3_look 63 = .ok (.iconst 1, 1) := by decide +kernel
theorem dX3_look_64 : decode cX3_look 64 = .ok (.iadd, 1) := by decide +kernel
theorem dX3_look_65 : decode cX3_look 65 = .ok (.invokevirtual 55, 3) := by decide +kernel
theorem dX3_look_68 : decode cX3_look 68 = .ok (.iinc 2 (-1), 3) := by decide +kernel
theorem dX3_look_71 : decode cX3_look 71 = .ok (.goto (-40), 3) := by decide +kernel
theorem dX3_look_74 : decode cX3_look 74 = .ok (.return_, 1) := by decide +kernel
theorem dX3_isCovered_0 : decode cX3_isCovered 0 = .ok (.aload_n 0, 1) := by decide +kernel
theorem dX3_isCovered_1 : decode cX3_isCovered 1 = .ok (.iload_n 1, 1) := by decide +kernel
theorem dX3_isCovered_2 : decode cX3_isCovered 2 = .ok (.bipush 6, 2) := by decide +kernel
theorem dX3_isCovered_4 : decode cX3_isCovered 4 = .ok (.idiv, 1) := by decide +kernel
theorem dX3_isCovered_5 : decode cX3_isCovered 5 = .ok (.invokevirtual 59, 3) := by decide +kernel
theorem dX3_isCovered_8 : decode cX3_isCovered 8 = .ok (.aload_n 0, 1) := by decide +kernel
theorem dX3_isCovered_9 : decode cX3_isCovered 9 = .ok (.getfield 43, 3) := by decide +kernel
theorem dX3_isCovered_12 : decode cX3_isCovered 12 = .ok (.iconst 2, 1) := by decide +kernel
theorem dX3_isCovered_13 : decode cX3_isCovered 13 = .ok (.if_icmp .ne 10, 3) := by decide +kernel
theorem dX3_isCovered_16 : decode cX3_isCovered 16 = .ok (.aload_n 0, 1) := by decide +kernel
theorem dX3_isCovered_17 : decode cX3_isCovered 17 = .ok (.getfield 46, 3) := by decide +kernel
theorem dX3_isCovered_20 : decode cX3_isCovered 20 = .ok (.goto 4, 3) := by decide +kernel
theorem dX3_isCovered_23 : decode cX3_isCovered 23 = .ok (.iconst 0, 1) := by decide +kernel
theorem dX3_isCovered_24 : decode cX3_isCovered 24 = .ok (.istore_n 2, 1) := by decide +kernel
theorem dX3_isCovered_25 : decode cX3_isCovered 25 = .ok (.aload_n 0, 1) := by decide +kernel
theorem dX3_isCovered_26 : decode cX3_isCovered 26 = .ok (.iload_n 1, 1) := by decide +kernel
theorem dX3_isCovered_27 : decode cX3_isCovered 27 = .ok (.iload_n 2, 1) := by decide +kernel
theorem dX3_isCovered_28 : decode cX3_isCovered 28 = .ok (.aload_n 0, 1) := by decide +kernel
theorem dX3_isCovered_29 : decode cX3_isCovered 29 = .ok (.getfield 31, 3) := by decide +kernel
theorem dX3_isCovered_32 : decode cX3_isCovered 32 = .ok (.invokevirtual 55, 3) := by decide +kernel
theorem dX3_isCovered_35 : decode cX3_isCovered 35 = .ok (.aload_n 0, 1) := by decide +kernel
theorem dX3_isCovered_36 : decode cX3_isCovered 36 = .ok (.getfield 43, 3) := by decide +kernel
theorem dX3_isCovered_39 : decode cX3_isCovered 39 = .ok (.ifCond .le 7, 3) := by decide +kernel
theorem dX3_isCovered_42 : decode cX3_isCovered 42 = .ok (.iconst 1, 1) := by decide +kernel
theorem dX3_isCovered_43 : decode cX3_isCovered 43 = .ok (.goto 4, 3) := by decide +kernel
theorem dX3_isCovered_46 : decode cX3_isCovered 46 = .ok (.iconst 0, 1) := by decide +kernel
theorem dX3_isCovered_47 : decode cX3_isCovered 47 = .ok (.ireturn, 1) := by decide +kernel
theorem dX3_children_0 : decode cX3_children 0 = .ok (.iconst 0, 1) := by decide +kernel
theorem dX3_children_1 : decode cX3_children 1 = .ok (.istore_n 2, 1) := by decide +kernel
theorem dX3_children_2 : decode cX3_children 2 = .ok (.iconst 1, 1) := by decide +kernel
theorem dX3_children_3 : decode cX3_children 3 = .ok (.istore_n 3, 1) := by decide +kernel
theorem dX3_children_4 : decode cX3_children 4 = .ok (.iload_n 3, 1) := by decide +kernel
theorem dX3_children_5 : decode cX3_children 5 = .ok (.iconst 5, 1) := by decide +kernel
theorem dX3_children_6 : decode cX3_children 6 = .ok (.if_icmp .gt 41, 3) := by decide +kernel
theorem dX3_children_9 : decode cX3_children 9 = .ok (.iload_n 1, 1) := by decide +kernel
theorem dX3_children_10 : decode cX3_children 10 = .ok (.sipush 216, 3) := by decide +kernel
theorem dX3_children_13 : decode cX3_children 13 = .ok (.if_icmp .ge 34, 3) := by decide +kernel
theorem dX3_children_16 : decode cX3_children 16 = .ok (.aload_n 0, 1) := by decide +kernel
theorem dX3_children_17 : decode cX3_children 17 = .ok (.bipush 6, 2) := by decide +kernel
theorem dX3_children_19 : decode cX3_children 19 = .ok (.iload_n 1, 1) := by decide +kernel
theorem dX3_children_20 : decode cX3_children 20 = .ok (.imul, 1) := by decide +kernel
theorem dX3_children_21 : decode cX3_children 21 = .ok (.iload_n 3, 1) := by decide +kernel
theorem dX3_children_22 : decode cX3_children 22 = .ok (.iadd, 1) := by decide +kernel
theorem dX3_children_23 : decode cX3_children 23 = .ok (.invokevirtual 59, 3) := by decide +kernel
theorem dX3_children_26 : decode cX3_children 26 = .ok (.iload_n 2, 1) := by decide +kernel
theorem dX3_children_27 : decode cX3_children 27 = .ok (.aload_n 0, 1) := by decide +kernel
theorem dX3_children_28 : decode cX3_children 28 = .ok (.getfield 43, 3) := by decide +kernel
theorem dX3_children_31 : decode cX3_children 31 = .ok (.ifCond .le 7, 3) := by decide +kernel
theorem dX3_children_34 : decode cX3_children 34 = .ok (.iconst 1, 1) := by decide +kernel
theorem dX3_children_35 : decode cX3_children 35 = .ok (.goto 4, 3) := by decide +kernel
theorem dX3_children_38 : decode cX3_children 38 = .ok (.iconst 0, 1) := by decide +kernel
theorem dX3_children_39 : decode cX3_children 39 = .ok (.iadd, 1) := by decide +kernel
theorem dX3_children_40 : decode cX3_children 40 = .ok (.istore_n 2, 1) := by decide +kernel
theorem dX3_children_41 : decode cX3_children 41 = .ok (.iinc 3 1, 3) := by decide +kernel
theorem dX3_children_44 : decode cX3_children 44 = .ok (.goto (-40), 3) := by decide +kernel
theorem dX3_children_47 : decode cX3_children 47 = .ok (.iload_n 2, 1) := by decide +kernel
theorem dX3_children_48 : decode cX3_children 48 = .ok (.ireturn, 1) := by decide +kernel
theorem dX3_upper_0 : decode cX3_upper 0 = .ok (.aload_n 0, 1) := by decide +kernel
theorem dX3_upper_1 : decode cX3_upper 1 = .ok (.getfield 7, 3) := by decide +kernel
theorem dX3_upper_4 : decode cX3_upper 4 = .ok (.sipush 1296, 3) := by decide +kernel
theorem dX3_upper_7 : decode cX3_upper 7 = .ok (.aload_n 0, 1) := by decide +kernel
theorem dX3_upper_8 : decode cX3_upper 8 = .ok (.getfield 31, 3) := by decide +kernel
theorem dX3_upper_11 : decode cX3_upper 11 = .ok (.imul, 1) := by decide +kernel
theorem dX3_upper_12 : decode cX3_upper 12 = .ok (.iload_n 1, 1) := by decide +kernel
theorem dX3_upper_13 : decode cX3_upper 13 = .ok (.iadd, 1) := by decide +kernel
theorem dX3_upper_14 : decode cX3_upper 14 = .ok (.iaload, 1) := by decide +kernel
theorem dX3_upper_15 : decode cX3_upper 15 = .ok (.ireturn, 1) := by decide +kernel
theorem dX3_set_0 : decode cX3_set 0 = .ok (.aload_n 0, 1) := by decide +kernel
theorem dX3_set_1 : decode cX3_set 1 = .ok (.getfield 7, 3) := by decide +kernel
theorem dX3_set_4 : decode cX3_set 4 = .ok (.sipush 1296, 3) := by decide +kernel
theorem dX3_set_7 : decode cX3_set 7 = .ok (.aload_n 0, 1) := by decide +kernel
theorem dX3_set_8 : decode cX3_set 8 = .ok (.getfield 31, 3) := by decide +kernel
theorem dX3_set_11 : decode cX3_set 11 = .ok (.imul, 1) := by decide +kernel
theorem dX3_set_12 : decode cX3_set 12 = .ok (.iload_n 1, 1) := by decide +kernel
theorem dX3_set_13 : decode cX3_set 13 = .ok (.iadd, 1) := by decide +kernel
theorem dX3_set_14 : decode cX3_set 14 = .ok (.iload_n 2, 1) := by decide +kernel
theorem dX3_set_15 : decode cX3_set 15 = .ok (.iastore, 1) := by decide +kernel
theorem dX3_set_16 : decode cX3_set 16 = .ok (.aload_n 0, 1) := by decide +kernel
theorem dX3_set_17 : decode cX3_set 17 = .ok (.getfield 13, 3) := by decide +kernel
theorem dX3_set_20 : decode cX3_set 20 = .ok (.sipush 1296, 3) := by decide +kernel
theorem dX3_set_23 : decode cX3_set 23 = .ok (.aload_n 0, 1) := by decide +kernel
theorem dX3_set_24 : decode cX3_set 24 = .ok (.getfield 31, 3) := by decide +kernel
theorem dX3_set_27 : decode cX3_set 27 = .ok (.imul, 1) := by decide +kernel
theorem dX3_set_28 : decode cX3_set 28 = .ok (.iload_n 1, 1) := by decide +kernel
theorem dX3_set_29 : decode cX3_set 29 = .ok (.iadd, 1) := by decide +kernel
theorem dX3_set_30 : decode cX3_set 30 = .ok (.iload_n 3, 1) := by decide +kernel
theorem dX3_set_31 : decode cX3_set 31 = .ok (.iastore, 1) := by decide +kernel
theorem dX3_set_32 : decode cX3_set 32 = .ok (.return_, 1) := by decide +kernel
theorem dX3_raise_0 : decode cX3_raise 0 = .ok (.iload_n 1, 1) := by decide +kernel
theorem dX3_raise_1 : decode cX3_raise 1 = .ok (.invokestatic 35, 3) := by decide +kernel
theorem dX3_raise_4 : decode cX3_raise 4 = .ok (.iconst 1, 1) := by decide +kernel
theorem dX3_raise_5 : decode cX3_raise 5 = .ok (.isub, 1) := by decide +kernel
theorem dX3_raise_6 : decode cX3_raise 6 = .ok (.istore_n 2, 1) := by decide +kernel
theorem dX3_raise_7 : decode cX3_raise 7 = .ok (.iload_n 2, 1) := by decide +kernel
theorem dX3_raise_8 : decode cX3_raise 8 = .ok (.ifCond .lt 40, 3) := by decide +kernel
theorem dX3_raise_11 : decode cX3_raise 11 = .ok (.iload_n 1, 1) := by decide +kernel
theorem dX3_raise_12 : decode cX3_raise 12 = .ok (.iload_n 2, 1) := by decide +kernel
theorem dX3_raise_13 : decode cX3_raise 13 = .ok (.invokestatic 39, 3) := by decide +kernel
theorem dX3_raise_16 : decode cX3_raise 16 = .ok (.istore_n 3, 1) := by decide +kernel
theorem dX3_raise_17 : decode cX3_raise 17 = .ok (.aload_n 0, 1) := by decide +kernel
theorem dX3_raise_18 : decode cX3_raise 18 = .ok (.iload_n 3, 1) := by decide +kernel
theorem dX3_raise_19 : decode cX3_raise 19 = .ok (.invokevirtual 63, 3) := by decide +kernel
theorem dX3_raise_22 : decode cX3_raise 22 = .ok (.ifCond .ne 20, 3) := by decide +kernel
theorem dX3_raise_25 : decode cX3_raise 25 = .ok (.aload_n 0, 1) := by decide +kernel
theorem dX3_raise_26 : decode cX3_raise 26 = .ok (.iload_n 3, 1) := by decide +kernel
theorem dX3_raise_27 : decode cX3_raise 27 = .ok (.iconst 2, 1) := by decide +kernel
theorem dX3_raise_28 : decode cX3_raise 28 = .ok (.iconst 0, 1) := by decide +kernel
theorem dX3_raise_29 : decode cX3_raise 29 = .ok (.invokevirtual 66, 3) := by decide +kernel
theorem dX3_raise_32 : decode cX3_raise 32 = .ok (.aload_n 0, 1) := by decide +kernel
theorem dX3_raise_33 : decode cX3_raise 33 = .ok (.dup, 1) := by decide +kernel
theorem dX3_raise_34 : decode cX3_raise 34 = .ok (.getfield 69, 3) := by decide +kernel
theorem dX3_raise_37 : decode cX3_raise 37 = .ok (.iconst 1, 1) := by decide +kernel
theorem dX3_raise_38 : decode cX3_raise 38 = .ok (.iadd, 1) := by decide +kernel
theorem dX3_raise_39 : decode cX3_raise 39 = .ok (.putfield 69, 3) := by decide +kernel
theorem dX3_raise_42 : decode cX3_raise 42 = .ok (.iinc 2 (-1), 3) := by decide +kernel
theorem dX3_raise_45 : decode cX3_raise 45 = .ok (.goto (-38), 3) := by decide +kernel
theorem dX3_raise_48 : decode cX3_raise 48 = .ok (.return_, 1) := by decide +kernel
theorem dX3_strip_0 : decode cX3_strip 0 = .ok (.iconst 1, 1) := by decide +kernel
theorem dX3_strip_1 : decode cX3_strip 1 = .ok (.istore_n 2, 1) := by decide +kernel
theorem dX3_strip_2 : decode cX3_strip 2 = .ok (.iload_n 2, 1) := by decide +kernel
theorem dX3_strip_3 : decode cX3_strip 3 = .ok (.sipush 1296, 3) := by decide +kernel
theorem dX3_strip_6 : decode cX3_strip 6 = .ok (.if_icmp .ge 29, 3) := by decide +kernel
theorem dX3_strip_9 : decode cX3_strip 9 = .ok (.iload_n 2, 1) := by decide +kernel
theorem dX3_strip_10 : decode cX3_strip 10 = .ok (.iload_n 1, 1) := by decide +kernel
theorem dX3_strip_11 : decode cX3_strip 11 = .ok (.if_icmp .eq 11, 3) := by decide +kernel
theorem dX3_strip_14 : decode cX3_strip 14 = .ok (.iload_n 2, 1) := by decide +kernel
theorem dX3_strip_15 : decode cX3_strip 15 = .ok (.iload_n 1, 1) := by decide +kernel
theorem dX3_strip_16 : decode cX3_strip 16 = .ok (.invokestatic 72, 3) := by decide +kernel
theorem dX3_strip_19 : decode cX3_strip 19 = .ok (.ifCond .eq 10, 3) := by decide +kernel
theorem dX3_strip_22 : decode cX3_strip 22 = .ok (.aload_n 0, 1) := by decide +kernel
theorem dX3_strip_23 : decode cX3_strip 23 = .ok (.iload_n 2, 1) := by decide +kernel
theorem dX3_strip_24 : decode cX3_strip 24 = .ok (.iconst 0, 1) := by decide +kernel
theorem dX3_strip_25 : decode cX3_strip 25 = .ok (.iconst 0, 1) := by decide +kernel
theorem dX3_strip_26 : decode cX3_strip 26 = .ok (.invokevirtual 66, 3) := by decide +kernel
theorem dX3_strip_29 : decode cX3_strip 29 = .ok (.iinc 2 1, 3) := by decide +kernel
theorem dX3_strip_32 : decode cX3_strip 32 = .ok (.goto (-30), 3) := by decide +kernel
theorem dX3_strip_35 : decode cX3_strip 35 = .ok (.return_, 1) := by decide +kernel
theorem dX3_make_0 : decode cX3_make 0 = .ok (.aload_n 0, 1) := by decide +kernel
theorem dX3_make_1 : decode cX3_make 1 = .ok (.iload_n 1, 1) := by decide +kernel
theorem dX3_make_2 : decode cX3_make 2 = .ok (.bipush 6, 2) := by decide +kernel
theorem dX3_make_4 : decode cX3_make 4 = .ok (.idiv, 1) := by decide +kernel
theorem dX3_make_5 : decode cX3_make 5 = .ok (.invokevirtual 76, 3) := by decide +kernel
theorem dX3_make_8 : decode cX3_make 8 = .ok (.aload_n 0, 1) := by decide +kernel
theorem dX3_make_9 : decode cX3_make 9 = .ok (.iload_n 1, 1) := by decide +kernel
theorem dX3_make_10 : decode cX3_make 10 = .ok (.invokevirtual 79, 3) := by decide +kernel
theorem dX3_make_13 : decode cX3_make 13 = .ok (.istore 4, 2) := by decide +kernel
theorem dX3_make_15 : decode cX3_make 15 = .ok (.aload_n 0, 1) := by decide +kernel
theorem dX3_make_16 : decode cX3_make 16 = .ok (.iload_n 1, 1) := by decide +kernel
theorem dX3_make_17 : decode cX3_make 17 = .ok (.invokevirtual 83, 3) := by decide +kernel
theorem dX3_make_20 : decode cX3_make 20 = .ok (.aload_n 0, 1) := by decide +kernel
theorem dX3_make_21 : decode cX3_make 21 = .ok (.iload_n 1, 1) := by decide +kernel
theorem dX3_make_22 : decode cX3_make 22 = .ok (.iload_n 2, 1) := by decide +kernel
theorem dX3_make_23 : decode cX3_make 23 = .ok (.iconst 2, 1) := by decide +kernel
theorem dX3_make_24 : decode cX3_make 24 = .ok (.if_icmp .ne 12, 3) := by decide +kernel
theorem dX3_make_27 : decode cX3_make 27 = .ok (.iload 4, 2) := by decide +kernel
theorem dX3_make_29 : decode cX3_make 29 = .ok (.ifCond .eq 7, 3) := by decide +kernel
theorem dX3_make_32 : decode cX3_make 32 = .ok (.iconst 3, 1) := by decide +kernel
theorem dX3_make_33 : decode cX3_make 33 = .ok (.goto 4, 3) := by decide +kernel
theorem dX3_make_36 : decode cX3_make 36 = .ok (.iload_n 2, 1) := by decide +kernel
theorem dX3_make_37 : decode cX3_make 37 = .ok (.iload_n 3, 1) := by decide +kernel
theorem dX3_make_38 : decode cX3_make 38 = .ok (.invokevirtual 66, 3) := by decide +kernel
theorem dX3_make_41 : decode cX3_make 41 = .ok (.return_, 1) := by decide +kernel
theorem dX3_unmake_0 : decode cX3_unmake 0 = .ok (.aload_n 0, 1) := by decide +kernel
theorem dX3_unmake_1 : decode cX3_unmake 1 = .ok (.iload_n 1, 1) := by decide +kernel
theorem dX3_unmake_2 : decode cX3_unmake 2 = .ok (.invokevirtual 83, 3) := by decide +kernel
theorem dX3_unmake_5 : decode cX3_unmake 5 = .ok (.aload_n 0, 1) := by decide +kernel
theorem dX3_unmake_6 : decode cX3_unmake 6 = .ok (.iload_n 1, 1) := by decide +kernel
theorem dX3_unmake_7 : decode cX3_unmake 7 = .ok (.invokevirtual 79, 3) := by decide +kernel
theorem dX3_unmake_10 : decode cX3_unmake 10 = .ok (.ifCond .eq 18, 3) := by decide +kernel
theorem dX3_unmake_13 : decode cX3_unmake 13 = .ok (.aload_n 0, 1) := by decide +kernel
theorem dX3_unmake_14 : decode cX3_unmake 14 = .ok (.iload_n 1, 1) := by decide +kernel
theorem dX3_unmake_15 : decode cX3_unmake 15 = .ok (.bipush 6, 2) := by decide +kernel
theorem dX3_unmake_17 : decode cX3_unmake 17 = .ok (.idiv, 1) := by decide +kernel
theorem dX3_unmake_18 : decode cX3_unmake 18 = .ok (.invokevirtual 76, 3) := by decide +kernel
theorem dX3_unmake_21 : decode cX3_unmake 21 = .ok (.aload_n 0, 1) := by decide +kernel
theorem dX3_unmake_22 : decode cX3_unmake 22 = .ok (.iload_n 1, 1) := by decide +kernel
theorem dX3_unmake_23 : decode cX3_unmake 23 = .ok (.iconst 4, 1) := by decide +kernel
theorem dX3_unmake_24 : decode cX3_unmake 24 = .ok (.iconst 0, 1) := by decide +kernel
theorem dX3_unmake_25 : decode cX3_unmake 25 = .ok (.invokevirtual 66, 3) := by decide +kernel
theorem dX3_unmake_28 : decode cX3_unmake 28 = .ok (.return_, 1) := by decide +kernel
theorem dX3_keep_0 : decode cX3_keep 0 = .ok (.iconst 0, 1) := by decide +kernel
theorem dX3_keep_1 : decode cX3_keep 1 = .ok (.istore_n 1, 1) := by decide +kernel
theorem dX3_keep_2 : decode cX3_keep 2 = .ok (.iload_n 1, 1) := by decide +kernel
theorem dX3_keep_3 : decode cX3_keep 3 = .ok (.sipush 1296, 3) := by decide +kernel
theorem dX3_keep_6 : decode cX3_keep 6 = .ok (.if_icmp .ge 41, 3) := by decide +kernel
theorem dX3_keep_9 : decode cX3_keep 9 = .ok (.aload_n 0, 1) := by decide +kernel
theorem dX3_keep_10 : decode cX3_keep 10 = .ok (.getfield 16, 3) := by decide +kernel
theorem dX3_keep_13 : decode cX3_keep 13 = .ok (.iload_n 1, 1) := by decide +kernel
theorem dX3_keep_14 : decode cX3_keep 14 = .ok (.aload_n 0, 1) := by decide +kernel
theorem dX3_keep_15 : decode cX3_keep 15 = .ok (.iload_n 1, 1) := by decide +kernel
theorem dX3_keep_16 : decode cX3_keep 16 = .ok (.invokevirtual 63, 3) := by decide +kernel
theorem dX3_keep_19 : decode cX3_keep 19 = .ok (.iastore, 1) := by decide +kernel
theorem dX3_keep_20 : decode cX3_keep 20 = .ok (.aload_n 0, 1) := by decide +kernel
theorem dX3_keep_21 : decode cX3_keep 21 = .ok (.getfield 19, 3) := by decide +kernel
theorem dX3_keep_24 : decode cX3_keep 24 = .ok (.iload_n 1, 1) := by decide +kernel
theorem dX3_keep_25 : decode cX3_keep 25 = .ok (.aload_n 0, 1) := by decide +kernel
theorem dX3_keep_26 : decode cX3_keep 26 = .ok (.getfield 13, 3) := by decide +kernel
theorem dX3_keep_29 : decode cX3_keep 29 = .ok (.sipush 1296, 3) := by decide +kernel
theorem dX3_keep_32 : decode cX3_keep 32 = .ok (.aload_n 0, 1) := by decide +kernel
theorem dX3_keep_33 : decode cX3_keep 33 = .ok (.getfield 31, 3) := by decide +kernel
theorem dX3_keep_36 : decode cX3_keep 36 = .ok (.imul, 1) := by decide +kernel
theorem dX3_keep_37 : decode cX3_keep 37 = .ok (.iload_n 1, 1) := by decide +kernel
theorem dX3_keep_38 : decode cX3_keep 38 = .ok (.iadd, 1) := by decide +kernel
theorem dX3_keep_39 : decode cX3_keep 39 = .ok (.iaload, 1) := by decide +kernel
theorem dX3_keep_40 : decode cX3_keep 40 = .ok (.iastore, 1) := by decide +kernel
theorem dX3_keep_41 : decode cX3_keep 41 = .ok (.iinc 1 1, 3) := by decide +kernel
theorem dX3_keep_44 : decode cX3_keep 44 = .ok (.goto (-42), 3) := by decide +kernel
theorem dX3_keep_47 : decode cX3_keep 47 = .ok (.return_, 1) := by decide +kernel
theorem dX3_end_0 : decode cX3_end 0 = .ok (.aload_n 0, 1) := by decide +kernel
theorem dX3_end_1 : decode cX3_end 1 = .ok (.aload_n 0, 1) := by decide +kernel
theorem dX3_end_2 : decode cX3_end 2 = .ok (.getfield 31, 3) := by decide +kernel
theorem dX3_end_5 : decode cX3_end 5 = .ok (.invokevirtual 86, 3) := by decide +kernel
theorem dX3_end_8 : decode cX3_end 8 = .ok (.bipush 30, 2) := by decide +kernel
theorem dX3_end_10 : decode cX3_end 10 = .ok (.if_icmp .gt 5, 3) := by decide +kernel
theorem dX3_end_13 : decode cX3_end 13 = .ok (.iconst 0, 1) := by decide +kernel
theorem dX3_end_14 : decode cX3_end 14 = .ok (.ireturn, 1) := by decide +kernel
theorem dX3_end_15 : decode cX3_end 15 = .ok (.iconst 0, 1) := by decide +kernel
theorem dX3_end_16 : decode cX3_end 16 = .ok (.istore_n 2, 1) := by decide +kernel
theorem dX3_end_17 : decode cX3_end 17 = .ok (.iload_n 2, 1) := by decide +kernel
theorem dX3_end_18 : decode cX3_end 18 = .ok (.sipush 1296, 3) := by decide +kernel
theorem dX3_end_21 : decode cX3_end 21 = .ok (.if_icmp .ge 26, 3) := by decide +kernel
theorem dX3_end_24 : decode cX3_end 24 = .ok (.aload_n 0, 1) := by decide +kernel
theorem dX3_end_25 : decode cX3_end 25 = .ok (.iload_n 2, 1) := by decide +kernel
theorem dX3_end_26 : decode cX3_end 26 = .ok (.aload_n 0, 1) := by decide +kernel
theorem dX3_end_27 : decode cX3_end 27 = .ok (.getfield 16, 3) := by decide +kernel
theorem dX3_end_30 : decode cX3_end 30 = .ok (.iload_n 2, 1) := by decide +kernel
theorem dX3_end_31 : decode cX3_end 31 = .ok (.iaload, 1) := by decide +kernel
theorem dX3_end_32 : decode cX3_end 32 = .ok (.aload_n 0, 1) := by decide +kernel
theorem dX3_end_33 : decode cX3_end 33 = .ok (.getfield 19, 3) := by decide +kernel
theorem dX3_end_36 : decode cX3_end 36 = .ok (.iload_n 2, 1) := by decide +kernel
theorem dX3_end_37 : decode cX3_end 37 = .ok (.iaload, 1) := by decide +kernel
theorem dX3_end_38 : decode cX3_end 38 = .ok (.invokevirtual 66, 3) := by decide +kernel
theorem dX3_end_41 : decode cX3_end 41 = .ok (.iinc 2 1, 3) := by decide +kernel
theorem dX3_end_44 : decode cX3_end 44 = .ok (.goto (-27), 3) := by decide +kernel
theorem dX3_end_47 : decode cX3_end 47 = .ok (.aload_n 0, 1) := by decide +kernel
theorem dX3_end_48 : decode cX3_end 48 = .ok (.iload_n 1, 1) := by decide +kernel
theorem dX3_end_49 : decode cX3_end 49 = .ok (.putfield 69, 3) := by decide +kernel
theorem dX3_end_52 : decode cX3_end 52 = .ok (.bipush (-11), 2) := by decide +kernel
theorem dX3_end_54 : decode cX3_end 54 = .ok (.ireturn, 1) := by decide +kernel
theorem dX3_isLayer_0 : decode cX3_isLayer 0 = .ok (.iload_n 1, 1) := by decide +kernel
theorem dX3_isLayer_1 : decode cX3_isLayer 1 = .ok (.ifCond .lt 15, 3) := by decide +kernel
theorem dX3_isLayer_4 : decode cX3_isLayer 4 = .ok (.iload_n 1, 1) := by decide +kernel
theorem dX3_isLayer_5 : decode cX3_isLayer 5 = .ok (.aload_n 0, 1) := by decide +kernel
theorem dX3_isLayer_6 : decode cX3_isLayer 6 = .ok (.getfield 31, 3) := by decide +kernel
theorem dX3_isLayer_9 : decode cX3_isLayer 9 = .ok (.if_icmp .gt 7, 3) := by decide +kernel
theorem dX3_isLayer_12 : decode cX3_isLayer 12 = .ok (.iconst 1, 1) := by decide +kernel
theorem dX3_isLayer_13 : decode cX3_isLayer 13 = .ok (.goto 4, 3) := by decide +kernel
theorem dX3_isLayer_16 : decode cX3_isLayer 16 = .ok (.iconst 0, 1) := by decide +kernel
theorem dX3_isLayer_17 : decode cX3_isLayer 17 = .ok (.ireturn, 1) := by decide +kernel
theorem dX3_entries_0 : decode cX3_entries 0 = .ok (.aload_n 0, 1) := by decide +kernel
theorem dX3_entries_1 : decode cX3_entries 1 = .ok (.iload_n 1, 1) := by decide +kernel
theorem dX3_entries_2 : decode cX3_entries 2 = .ok (.invokevirtual 89, 3) := by decide +kernel
theorem dX3_entries_5 : decode cX3_entries 5 = .ok (.ifCond .ne 6, 3) := by decide +kernel
theorem dX3_entries_8 : decode cX3_entries 8 = .ok (.bipush (-2), 2) := by decide +kernel
theorem dX3_entries_10 : decode cX3_entries 10 = .ok (.ireturn, 1) := by decide +kernel
theorem dX3_entries_11 : decode cX3_entries 11 = .ok (.iconst 0, 1) := by decide +kernel
theorem dX3_entries_12 : decode cX3_entries 12 = .ok (.istore_n 2, 1) := by decide +kernel
theorem dX3_entries_13 : decode cX3_entries 13 = .ok (.iconst 1, 1) := by decide +kernel
theorem dX3_entries_14 : decode cX3_entries 14 = .ok (.istore_n 3, 1) := by decide +kernel
theorem dX3_entries_15 : decode cX3_entries 15 = .ok (.iload_n 3, 1) := by decide +kernel
theorem dX3_entries_16 : decode cX3_entries 16 = .ok (.sipush 1296, 3) := by decide +kernel
theorem dX3_entries_19 : decode cX3_entries 19 = .ok (.if_icmp .ge 32, 3) := by decide +kernel
theorem dX3_entries_22 : decode cX3_entries 22 = .ok (.iload_n 2, 1) := by decide +kernel
theorem dX3_entries_23 : decode cX3_entries 23 = .ok (.aload_n 0, 1) := by decide +kernel
theorem dX3_entries_24 : decode cX3_entries 24 = .ok (.getfield 7, 3) := by decide +kernel
theorem dX3_entries_27 : decode cX3_entries 27 = .ok (.sipush 1296, 3) := by decide +kernel
theorem dX3_entries_30 : decode cX3_entries 30 = .ok (.iload_n 1, 1) := by decide +kernel
theorem dX3_entries_31 : decode cX3_entries 31 = .ok (.imul, 1) := by decide +kernel
theorem dX3_entries_32 : decode cX3_entries 32 = .ok (.iload_n 3, 1) := by decide +kernel
theorem dX3_entries_33 : decode cX3_entries 33 = .ok (.iadd, 1) := by decide +kernel
theorem dX3_entries_34 : decode cX3_entries 34 = .ok (.iaload, 1) := by decide +kernel
theorem dX3_entries_35 : decode cX3_entries 35 = .ok (.ifCond .le 7, 3) := by decide +kernel
theorem dX3_entries_38 : decode cX3_entries 38 = .ok (.iconst 1, 1) := by decide +kernel
theorem dX3_entries_39 : decode cX3_entries 39 = .ok (.goto 4, 3) := by decide +kernel
theorem dX3_entries_42 : decode cX3_entries 42 = .ok (.iconst 0, 1) := by decide +kernel
theorem dX3_entries_43 : decode cX3_entries 43 = .ok (.iadd, 1) := by decide +kernel
theorem dX3_entries_44 : decode cX3_entries 44 = .ok (.istore_n 2, 1) := by decide +kernel
theorem dX3_entries_45 : decode cX3_entries 45 = .ok (.iinc 3 1, 3) := by decide +kernel
theorem dX3_entries_48 : decode cX3_entries 48 = .ok (.goto (-33), 3) := by decide +kernel
theorem dX3_entries_51 : decode cX3_entries 51 = .ok (.iload_n 2, 1) := by decide +kernel
theorem dX3_entries_52 : decode cX3_entries 52 = .ok (.ireturn, 1) := by decide +kernel
theorem dX3_room_0 : decode cX3_room 0 = .ok (.iconst 0, 1) := by decide +kernel
theorem dX3_room_1 : decode cX3_room 1 = .ok (.istore_n 2, 1) := by decide +kernel
theorem dX3_room_2 : decode cX3_room 2 = .ok (.iconst 0, 1) := by decide +kernel
theorem dX3_room_3 : decode cX3_room 3 = .ok (.istore_n 3, 1) := by decide +kernel
theorem dX3_room_4 : decode cX3_room 4 = .ok (.iload_n 3, 1) := by decide +kernel
theorem dX3_room_5 : decode cX3_room 5 = .ok (.aload_n 0, 1) := by decide +kernel
theorem dX3_room_6 : decode cX3_room 6 = .ok (.getfield 31, 3) := by decide +kernel
theorem dX3_room_9 : decode cX3_room 9 = .ok (.if_icmp .ge 17, 3) := by decide +kernel
theorem dX3_room_12 : decode cX3_room 12 = .ok (.iload_n 2, 1) := by decide +kernel
theorem dX3_room_13 : decode cX3_room 13 = .ok (.aload_n 0, 1) := by decide +kernel
theorem dX3_room_14 : decode cX3_room 14 = .ok (.iload_n 3, 1) := by decide +kernel
theorem dX3_room_15 : decode cX3_room 15 = .ok (.invokevirtual 86, 3) := by decide +kernel
theorem dX3_room_18 : decode cX3_room 18 = .ok (.iadd, 1) := by decide +kernel
theorem dX3_room_19 : decode cX3_room 19 = .ok (.istore_n 2, 1) := by decide +kernel
theorem dX3_room_20 : decode cX3_room 20 = .ok (.iinc 3 1, 3) := by decide +kernel
theorem dX3_room_23 : decode cX3_room 23 = .ok (.goto (-19), 3) := by decide +kernel
theorem dX3_room_26 : decode cX3_room 26 = .ok (.iload_n 1, 1) := by decide +kernel
theorem dX3_room_27 : decode cX3_room 27 = .ok (.aload_n 0, 1) := by decide +kernel
theorem dX3_room_28 : decode cX3_room 28 = .ok (.getfield 31, 3) := by decide +kernel
theorem dX3_room_31 : decode cX3_room 31 = .ok (.if_icmp .ne 24, 3) := by decide +kernel
theorem dX3_room_34 : decode cX3_room 34 = .ok (.aload_n 0, 1) := by decide +kernel
theorem dX3_room_35 : decode cX3_room 35 = .ok (.aload_n 0, 1) := by decide +kernel
theorem dX3_room_36 : decode cX3_room 36 = .ok (.getfield 31, 3) := by decide +kernel
theorem dX3_room_39 : decode cX3_room 39 = .ok (.invokevirtual 86, 3) := by decide +kernel
theorem dX3_room_42 : decode cX3_room 42 = .ok (.bipush 30, 2) := by decide +kernel
theorem dX3_room_44 : decode cX3_room 44 = .ok (.if_icmp .ge 7, 3) := by decide +kernel
theorem dX3_room_47 : decode cX3_room 47 = .ok (.iconst 1, 1) := by decide +kernel
theorem dX3_room_48 : decode cX3_room 48 = .ok (.goto 18, 3) := by decide +kernel
theorem dX3_room_51 : decode cX3_room 51 = .ok (.iconst 0, 1) := by decide +kernel
theorem dX3_room_52 : decode cX3_room 52 = .ok (.goto 14, 3) := by decide +kernel
theorem dX3_room_55 : decode cX3_room 55 = .ok (.iload_n 2, 1) := by decide +kernel
theorem dX3_room_56 : decode cX3_room 56 = .ok (.bipush 60, 2) := by decide +kernel
theorem dX3_room_58 : decode cX3_room 58 = .ok (.if_icmp .ge 7, 3) := by decide +kernel
theorem dX3_room_61 : decode cX3_room 61 = .ok (.iconst 1, 1) := by decide +kernel
theorem dX3_room_62 : decode cX3_room 62 = .ok (.goto 4, 3) := by decide +kernel
theorem dX3_room_65 : decode cX3_room 65 = .ok (.iconst 0, 1) := by decide +kernel
theorem dX3_room_66 : decode cX3_room 66 = .ok (.ireturn, 1) := by decide +kernel
theorem dX3_put_0 : decode cX3_put 0 = .ok (.iload_n 2, 1) := by decide +kernel
theorem dX3_put_1 : decode cX3_put 1 = .ok (.invokestatic 92, 3) := by decide +kernel
theorem dX3_put_4 : decode cX3_put 4 = .ok (.istore 5, 2) := by decide +kernel
theorem dX3_put_6 : decode cX3_put 6 = .ok (.aload_n 0, 1) := by decide +kernel
theorem dX3_put_7 : decode cX3_put 7 = .ok (.getfield 95, 3) := by decide +kernel
theorem dX3_put_10 : decode cX3_put 10 = .ok (.ifCond .ne 36, 3) := by decide +kernel
theorem dX3_put_13 : decode cX3_put 13 = .ok (.aload_n 0, 1) := by decide +kernel
theorem dX3_put_14 : decode cX3_put 14 = .ok (.iload_n 1, 1) := by decide +kernel
theorem dX3_put_15 : decode cX3_put 15 = .ok (.invokevirtual 89, 3) := by decide +kernel
theorem dX3_put_18 : decode cX3_put 18 = .ok (.ifCond .eq 28, 3) := by decide +kernel
theorem dX3_put_21 : decode cX3_put 21 = .ok (.iload 5, 2) := by decide +kernel
theorem dX3_put_23 : decode cX3_put 23 = .ok (.ifCond .le 23, 3) := by decide +kernel
theorem dX3_put_26 : decode cX3_put 26 = .ok (.iload_n 3, 1) := by decide +kernel
theorem dX3_put_27 : decode cX3_put 27 = .ok (.iconst 1, 1) := by decide +kernel
theorem dX3_put_28 : decode cX3_put 28 = .ok (.if_icmp .lt 18, 3) := by decide +kernel
theorem dX3_put_31 : decode cX3_put 31 = .ok (.iload_n 3, 1) := by decide +kernel
theorem dX3_put_32 : decode cX3_put 32 = .ok (.iconst 4, 1) := by decide +kernel
theorem dX3_put_33 : decode cX3_put 33 = .ok (.if_icmp .gt 13, 3) := by decide +kernel
theorem dX3_put_36 : decode cX3_put 36 = .ok (.iload_n 3, 1) := by decide +kernel
theorem dX3_put_37 : decode cX3_put 37 = .ok (.iconst 1, 1) := by decide +kernel
theorem dX3_put_38 : decode cX3_put 38 = .ok (.if_icmp .ne 10, 3) := by decide +kernel
theorem dX3_put_41 : decode cX3_put 41 = .ok (.iload 4, 2) := by decide +kernel
theorem dX3_put_43 : decode cX3_put 43 = .ok (.ifCond .ge 5, 3) := by decide +kernel
theorem dX3_put_46 : decode cX3_put 46 = .ok (.iconst 0, 1) := by decide +kernel
theorem dX3_put_47 : decode cX3_put 47 = .ok (.ireturn, 1) := by decide +kernel
theorem dX3_put_48 : decode cX3_put 48 = .ok (.sipush 1296, 3) := by decide +kernel
theorem dX3_put_51 : decode cX3_put 51 = .ok (.iload_n 1, 1) := by decide +kernel
theorem dX3_put_52 : decode cX3_put 52 = .ok (.imul, 1) := by decide +kernel
theorem dX3_put_53 : decode cX3_put 53 = .ok (.istore 6, 2) := by decide +kernel
theorem dX3_put_55 : decode cX3_put 55 = .ok (.iload 5, 2) := by decide +kernel
theorem dX3_put_57 : decode cX3_put 57 = .ok (.bipush 6, 2) := by decide +kernel
theorem dX3_put_59 : decode cX3_put 59 = .ok (.idiv, 1) := by decide +kernel
theorem dX3_put_60 : decode cX3_put 60 = .ok (.ifCond .ne 7, 3) := by decide +kernel
theorem dX3_put_63 : decode cX3_put 63 = .ok (.iconst 2, 1) := by decide +kernel
theorem dX3_put_64 : decode cX3_put 64 = .ok (.goto 16, 3) := by decide +kernel
theorem dX3_put_67 : decode cX3_put 67 = .ok (.aload_n 0, 1) := by decide +kernel
theorem dX3_put_68 : decode cX3_put 68 = .ok (.getfield 7, 3) := by decide +kernel
theorem dX3_put_71 : decode cX3_put 71 = .ok (.iload 6, 2) := by decide +kernel
theorem dX3_put_73 : decode cX3_put 73 = .ok (.iload 5, 2) := by decide +kernel
theorem dX3_put_75 : decode cX3_put 75 = .ok (.bipush 6, 2) := by decide +kernel
theorem dX3_put_77 : decode cX3_put 77 = .ok (.idiv, 1) := by decide +kernel
theorem dX3_put_78 : decode cX3_put 78 = .ok (.iadd, 1) := by decide +kernel
theorem dX3_put_79 : decode cX3_put 79 = .ok (.iaload, 1) := by decide +kernel
theorem dX3_put_80 : decode cX3_put 80 = .ok (.istore 7, 2) := by decide +kernel
theorem dX3_put_82 : decode cX3_put 82 = .ok (.aload_n 0, 1) := by decide +kernel
theorem dX3_put_83 : decode cX3_put 83 = .ok (.getfield 7, 3) := by decide +kernel
theorem dX3_put_86 : decode cX3_put 86 = .ok (.iload 6, 2) := by decide +kernel
theorem dX3_put_88 : decode cX3_put 88 = .ok (.iload 5, 2) := by decide +kernel
theorem dX3_put_90 : decode cX3_put 90 = .ok (.iadd, 1) := by decide +kernel
theorem dX3_put_91 : decode cX3_put 91 = .ok (.iaload, 1) := by decide +kernel
theorem dX3_put_92 : decode cX3_put 92 = .ok (.ifCond .gt 23, 3) := by decide +kernel
theorem dX3_put_95 : decode cX3_put 95 = .ok (.iload 7, 2) := by decide +kernel
theorem dX3_put_97 : decode cX3_put 97 = .ok (.iconst 2, 1) := by decide +kernel
theorem dX3_put_98 : decode cX3_put 98 = .ok (.if_icmp .eq 9, 3) := by decide +kernel
theorem dX3_put_101 : decode cX3_put 101 = .ok (.iload 7, 2) := by decide +kernel
theorem dX3_put_103 : decode cX3_put 103 = .ok (.iconst 3, 1) := by decide +kernel
theorem dX3_put_104 : decode cX3_put 104 = .ok (.if_icmp .ne 11, 3) := by decide +kernel
theorem dX3_put_107 : decode cX3_put 107 = .ok (.aload_n 0, 1) := by decide +kernel
theorem dX3_put_108 : decode cX3_put 108 = .ok (.iload_n 1, 1) := by decide +kernel
theorem dX3_put_109 : decode cX3_put 109 = .ok (.invokevirtual 99, 3) := by decide +kernel
theorem dX3_put_112 : decode cX3_put 112 = .ok (.ifCond .ne 5, 3) := by decide +kernel
theorem dX3_put_115 : decode cX3_put 115 = .ok (.iconst 0, 1) := by decide +kernel
theorem dX3_put_116 : decode cX3_put 116 = .ok (.ireturn, 1) := by decide +kernel
theorem dX3_put_117 : decode cX3_put 117 = .ok (.aload_n 0, 1) := by decide +kernel
theorem dX3_put_118 : decode cX3_put 118 = .ok (.getfield 7, 3) := by decide +kernel
theorem dX3_put_121 : decode cX3_put 121 = .ok (.iload 6, 2) := by decide +kernel
theorem dX3_put_123 : decode cX3_put 123 = .ok (.iload 5, 2) := by decide +kernel
theorem dX3_put_125 : decode cX3_put 125 = .ok (.iadd, 1) := by decide +kernel
theorem dX3_put_126 : decode cX3_put 126 = .ok (.iload_n 3, 1) := by decide +kernel
theorem dX3_put_127 : decode cX3_put 127 = .ok (.iastore, 1) := by decide +kernel
theorem dX3_put_128 : decode cX3_put 128 = .ok (.aload_n 0, 1) := by decide +kernel
theorem dX3_put_129 : decode cX3_put 129 = .ok (.getfield 13, 3) := by decide +kernel
theorem dX3_put_132 : decode cX3_put 132 = .ok (.iload 6, 2) := by decide +kernel
theorem dX3_put_134 : decode cX3_put 134 = .ok (.iload 5, 2) := by decide +kernel
theorem dX3_put_136 : decode cX3_put 136 = .ok (.iadd, 1) := by decide +kernel
theorem dX3_put_137 : decode cX3_put 137 = .ok (.iload_n 3, 1) := by decide +kernel
theorem dX3_put_138 : decode cX3_put 138 = .ok (.iconst 1, 1) := by decide +kernel
theorem dX3_put_139 : decode cX3_put 139 = .ok (.if_icmp .ne 8, 3) := by decide +kernel
theorem dX3_put_142 : decode cX3_put 142 = .ok (.iload 4, 2) := by decide +kernel
theorem dX3_put_144 : decode cX3_put 144 = .ok (.goto 4, 3) := by decide +kernel
theorem dX3_put_147 : decode cX3_put 147 = .ok (.iconst 0, 1) := by decide +kernel
theorem dX3_put_148 : decode cX3_put 148 = .ok (.iastore, 1) := by decide +kernel
theorem dX3_put_149 : decode cX3_put 149 = .ok (.iconst 1, 1) := by decide +kernel
theorem dX3_put_150 : decode cX3_put 150 = .ok (.ireturn, 1) := by decide +kernel
theorem dX3_mount_0 : decode cX3_mount 0 = .ok (.aload_n 0, 1) := by decide +kernel
theorem dX3_mount_1 : decode cX3_mount 1 = .ok (.getfield 95, 3) := by decide +kernel
theorem dX3_mount_4 : decode cX3_mount 4 = .ok (.istore_n 1, 1) := by decide +kernel
theorem dX3_mount_5 : decode cX3_mount 5 = .ok (.aload_n 0, 1) := by decide +kernel
theorem dX3_mount_6 : decode cX3_mount 6 = .ok (.iconst 1, 1) := by decide +kernel
theorem dX3_mount_7 : decode cX3_mount 7 = .ok (.putfield 95, 3) := by decide +kernel
theorem dX3_mount_10 : decode cX3_mount 10 = .ok (.iload_n 1, 1) := by decide +kernel
theorem dX3_mount_11 : decode cX3_mount 11 = .ok (.ifCond .ne 7, 3) := by decide +kernel
theorem dX3_mount_14 : decode cX3_mount 14 = .ok (.iconst 1, 1) := by decide +kernel
theorem dX3_mount_15 : decode cX3_mount 15 = .ok (.goto 4, 3) := by decide +kernel
theorem dX3_mount_18 : decode cX3_mount 18 = .ok (.iconst 0, 1) := by decide +kernel
theorem dX3_mount_19 : decode cX3_mount 19 = .ok (.ireturn, 1) := by decide +kernel
theorem dX3_entry_0 : decode cX3_entry 0 = .ok (.iload_n 2, 1) := by decide +kernel
theorem dX3_entry_1 : decode cX3_entry 1 = .ok (.invokestatic 92, 3) := by decide +kernel
theorem dX3_entry_4 : decode cX3_entry 4 = .ok (.istore_n 3, 1) := by decide +kernel
theorem dX3_entry_5 : decode cX3_entry 5 = .ok (.aload_n 0, 1) := by decide +kernel
theorem dX3_entry_6 : decode cX3_entry 6 = .ok (.iload_n 1, 1) := by decide +kernel
theorem dX3_entry_7 : decode cX3_entry 7 = .ok (.invokevirtual 89, 3) := by decide +kernel
theorem dX3_entry_10 : decode cX3_entry 10 = .ok (.ifCond .eq 7, 3) := by decide +kernel
theorem dX3_entry_13 : decode cX3_entry 13 = .ok (.iload_n 3, 1) := by decide +kernel
theorem dX3_entry_14 : decode cX3_entry 14 = .ok (.ifCond .gt 8, 3) := by decide +kernel
theorem dX3_entry_17 : decode cX3_entry 17 = .ok (.bipush (-2), 2) := by decide +kernel
theorem dX3_entry_19 : decode cX3_entry 19 = .ok (.goto 15, 3) := by decide +kernel
theorem dX3_entry_22 : decode cX3_entry 22 = .ok (.aload_n 0, 1) := by decide +kernel
theorem dX3_entry_23 : decode cX3_entry 23 = .ok (.getfield 7, 3) := by decide +kernel
theorem dX3_entry_26 : decode cX3_entry 26 = .ok (.sipush 1296, 3) := by decide +kernel
theorem dX3_entry_29 : decode cX3_entry 29 = .ok (.iload_n 1, 1) := by decide +kernel
theorem dX3_entry_30 : decode cX3_entry 30 = .ok (.imul, 1) := by decide +kernel
theorem dX3_entry_31 : decode cX3_entry 31 = .ok (.iload_n 3, 1) := by decide +kernel
theorem dX3_entry_32 : decode cX3_entry 32 = .ok (.iadd, 1) := by decide +kernel
theorem dX3_entry_33 : decode cX3_entry 33 = .ok (.iaload, 1) := by decide +kernel
theorem dX3_entry_34 : decode cX3_entry 34 = .ok (.ireturn, 1) := by decide +kernel
theorem dX3_entryValue_0 : decode cX3_entryValue 0 = .ok (.aload_n 0, 1) := by decide +kernel
theorem dX3_entryValue_1 : decode cX3_entryValue 1 = .ok (.iload_n 1, 1) := by decide +kernel
theorem dX3_entryValue_2 : decode cX3_entryValue 2 = .ok (.iload_n 2, 1) := by decide +kernel
theorem dX3_entryValue_3 : decode cX3_entryValue 3 = .ok (.invokevirtual 102, 3) := by decide +kernel
theorem dX3_entryValue_6 : decode cX3_entryValue 6 = .ok (.istore_n 3, 1) := by decide +kernel
theorem dX3_entryValue_7 : decode cX3_entryValue 7 = .ok (.iload_n 3, 1) := by decide +kernel
theorem dX3_entryValue_8 : decode cX3_entryValue 8 = .ok (.ifCond .ge 8, 3) := by decide +kernel
theorem dX3_entryValue_11 : decode cX3_entryValue 11 = .ok (.bipush (-2), 2) := by decide +kernel
theorem dX3_entryValue_13 : decode cX3_entryValue 13 = .ok (.goto 28, 3) := by decide +kernel
theorem dX3_entryValue_16 : decode cX3_entryValue 16 = .ok (.iload_n 3, 1) := by decide +kernel
theorem dX3_entryValue_17 : decode cX3_entryValue 17 = .ok (.iconst 1, 1) := by decide +kernel
theorem dX3_entryValue_18 : decode cX3_entryValue 18 = .ok (.if_icmp .eq 8, 3) := by decide +kernel
theorem dX3_entryValue_21 : decode cX3_entryValue 21 = .ok (.bipush (-3), 2) := by decide +kernel
theorem dX3_entryValue_23 : decode cX3_entryValue 23 = .ok (.goto 18, 3) := by decide +kernel
theorem dX3_entryValue_26 : decode cX3_entryValue 26 = .ok (.aload_n 0, 1) := by decide +kernel
theorem dX3_entryValue_27 : decode cX3_entryValue 27 = .ok (.getfield 13, 3) := by decide +kernel
theorem dX3_entryValue_30 : decode cX3_entryValue 30 = .ok (.sipush 1296, 3) := by decide +kernel
theorem dX3_entryValue_33 : decode cX3_entryValue 33 = .ok (.iload_n 1, 1) := by decide +kernel
theorem dX3_entryValue_34 : decode cX3_entryValue 34 = .ok (.imul, 1) := by decide +kernel
theorem dX3_entryValue_35 : decode cX3_entryValue 35 = .ok (.iload_n 2, 1) := by decide +kernel
theorem dX3_entryValue_36 : decode cX3_entryValue 36 = .ok (.invokestatic 92, 3) := by decide +kernel
theorem dX3_entryValue_39 : decode cX3_entryValue 39 = .ok (.iadd, 1) := by decide +kernel
theorem dX3_entryValue_40 : decode cX3_entryValue 40 = .ok (.iaload, 1) := by decide +kernel
theorem dX3_entryValue_41 : decode cX3_entryValue 41 = .ok (.ireturn, 1) := by decide +kernel
theorem dX3_whiteouts_0 : decode cX3_whiteouts 0 = .ok (.iconst 0, 1) := by decide +kernel
theorem dX3_whiteouts_1 : decode cX3_whiteouts 1 = .ok (.istore_n 1, 1) := by decide +kernel
theorem dX3_whiteouts_2 : decode cX3_whiteouts 2 = .ok (.iconst 1, 1) := by decide +kernel
theorem dX3_whiteouts_3 : decode cX3_whiteouts 3 = .ok (.istore_n 2, 1) := by decide +kernel
theorem dX3_whiteouts_4 : decode cX3_whiteouts 4 = .ok (.iload_n 2, 1) := by decide +kernel
theorem dX3_whiteouts_5 : decode cX3_whiteouts 5 = .ok (.sipush 1296, 3) := by decide +kernel
theorem dX3_whiteouts_8 : decode cX3_whiteouts 8 = .ok (.if_icmp .ge 26, 3) := by decide +kernel
theorem dX3_whiteouts_11 : decode cX3_whiteouts 11 = .ok (.iload_n 1, 1) := by decide +kernel
theorem dX3_whiteouts_12 : decode cX3_whiteouts 12 = .ok (.aload_n 0, 1) := by decide +kernel
theorem dX3_whiteouts_13 : decode cX3_whiteouts 13 = .ok (.iload_n 2, 1) := by decide +kernel
theorem dX3_whiteouts_14 : decode cX3_whiteouts 14 = .ok (.invokevirtual 63, 3) := by decide +kernel
theorem dX3_whiteouts_17 : decode cX3_whiteouts 17 = .ok (.iconst 4, 1) := by decide +kernel
theorem dX3_whiteouts_18 : decode cX3_whiteouts 18 = .ok (.if_icmp .ne 7, 3) := by decide +kernel
theorem dX3_whiteouts_21 : decode cX3_whiteouts 21 = .ok (.iconst 1, 1) := by decide +kernel
theorem dX3_whiteouts_22 : decode cX3_whiteouts 22 = .ok (.goto 4, 3) := by decide +kernel
theorem dX3_whiteouts_25 : decode cX3_whiteouts 25 = .ok (.iconst 0, 1) := by decide +kernel
theorem dX3_whiteouts_26 : decode cX3_whiteouts 26 = .ok (.iadd, 1) := by decide +kernel
theorem dX3_whiteouts_27 : decode cX3_whiteouts 27 = .ok (.istore_n 1, 1) := by decide +kernel
theorem dX3_whiteouts_28 : decode cX3_whiteouts 28 = .ok (.iinc 2 1, 3) := by decide +kernel
theorem dX3_whiteouts_31 : decode cX3_whiteouts 31 = .ok (.goto (-27), 3) := by decide +kernel
theorem dX3_whiteouts_34 : decode cX3_whiteouts 34 = .ok (.iload_n 1, 1) := by decide +kernel
theorem dX3_whiteouts_35 : decode cX3_whiteouts 35 = .ok (.ireturn, 1) := by decide +kernel
theorem dX3_copies_0 : decode cX3_copies 0 = .ok (.aload_n 0, 1) := by decide +kernel
theorem dX3_copies_1 : decode cX3_copies 1 = .ok (.getfield 69, 3) := by decide +kernel
theorem dX3_copies_4 : decode cX3_copies 4 = .ok (.ireturn, 1) := by decide +kernel
theorem dX3_kind_0 : decode cX3_kind 0 = .ok (.iload_n 1, 1) := by decide +kernel
theorem dX3_kind_1 : decode cX3_kind 1 = .ok (.invokestatic 92, 3) := by decide +kernel
theorem dX3_kind_4 : decode cX3_kind 4 = .ok (.istore_n 2, 1) := by decide +kernel
theorem dX3_kind_5 : decode cX3_kind 5 = .ok (.aload_n 0, 1) := by decide +kernel
theorem dX3_kind_6 : decode cX3_kind 6 = .ok (.getfield 95, 3) := by decide +kernel
theorem dX3_kind_9 : decode cX3_kind 9 = .ok (.ifCond .eq 7, 3) := by decide +kernel
theorem dX3_kind_12 : decode cX3_kind 12 = .ok (.iload_n 2, 1) := by decide +kernel
theorem dX3_kind_13 : decode cX3_kind 13 = .ok (.ifCond .ge 17, 3) := by decide +kernel
theorem dX3_kind_16 : decode cX3_kind 16 = .ok (.aload_n 0, 1) := by decide +kernel
theorem dX3_kind_17 : decode cX3_kind 17 = .ok (.getfield 95, 3) := by decide +kernel
theorem dX3_kind_20 : decode cX3_kind 20 = .ok (.ifCond .ne 7, 3) := by decide +kernel
theorem dX3_kind_23 : decode cX3_kind 23 = .ok (.iconst (-1), 1) := by decide +kernel
theorem dX3_kind_24 : decode cX3_kind 24 = .ok (.goto 5, 3) := by decide +kernel
theorem dX3_kind_27 : decode cX3_kind 27 = .ok (.bipush (-2), 2) := by decide +kernel
theorem dX3_kind_29 : decode cX3_kind 29 = .ok (.ireturn, 1) := by decide +kernel
theorem dX3_kind_30 : decode cX3_kind 30 = .ok (.aload_n 0, 1) := by decide +kernel
theorem dX3_kind_31 : decode cX3_kind 31 = .ok (.iload_n 2, 1) := by decide +kernel
theorem dX3_kind_32 : decode cX3_kind 32 = .ok (.invokevirtual 59, 3) := by decide +kernel
theorem dX3_kind_35 : decode cX3_kind 35 = .ok (.aload_n 0, 1) := by decide +kernel
theorem dX3_kind_36 : decode cX3_kind 36 = .ok (.getfield 43, 3) := by decide +kernel
theorem dX3_kind_39 : decode cX3_kind 39 = .ok (.ireturn, 1) := by decide +kernel
theorem dX3_read_0 : decode cX3_read 0 = .ok (.aload_n 0, 1) := by decide +kernel
theorem dX3_read_1 : decode cX3_read 1 = .ok (.iload_n 1, 1) := by decide +kernel
theorem dX3_read_2 : decode cX3_read 2 = .ok (.invokevirtual 105, 3) := by decide +kernel
theorem dX3_read_5 : decode cX3_read 5 = .ok (.istore_n 2, 1) := by decide +kernel
theorem dX3_read_6 : decode cX3_read 6 = .ok (.iload_n 2, 1) := by decide +kernel
theorem dX3_read_7 : decode cX3_read 7 = .ok (.ifCond .ge 7, 3) := by decide +kernel
theorem dX3_read_10 : decode cX3_read 10 = .ok (.iload_n 2, 1) := by decide +kernel
theorem dX3_read_11 : decode cX3_read 11 = .ok (.goto 26, 3) := by decide +kernel
theorem dX3_read_14 : decode cX3_read 14 = .ok (.iload_n 2, 1) := by decide +kernel
theorem dX3_read_15 : decode cX3_read 15 = .ok (.ifCond .ne 8, 3) := by decide +kernel
theorem dX3_read_18 : decode cX3_read 18 = .ok (.bipush (-3), 2) := by decide +kernel
theorem dX3_read_20 : decode cX3_read 20 = .ok (.goto 17, 3) := by decide +kernel
theorem dX3_read_23 : decode cX3_read 23 = .ok (.iload_n 2, 1) := by decide +kernel
theorem dX3_read_24 : decode cX3_read 24 = .ok (.iconst 2, 1) := by decide +kernel
theorem dX3_read_25 : decode cX3_read 25 = .ok (.if_icmp .ne 8, 3) := by decide +kernel
theorem dX3_read_28 : decode cX3_read 28 = .ok (.bipush (-6), 2) := by decide +kernel
theorem dX3_read_30 : decode cX3_read 30 = .ok (.goto 7, 3) := by decide +kernel
theorem dX3_read_33 : decode cX3_read 33 = .ok (.aload_n 0, 1) := by decide +kernel
theorem dX3_read_34 : decode cX3_read 34 = .ok (.getfield 52, 3) := by decide +kernel
theorem dX3_read_37 : decode cX3_read 37 = .ok (.ireturn, 1) := by decide +kernel
theorem dX3_size_0 : decode cX3_size 0 = .ok (.aload_n 0, 1) := by decide +kernel
theorem dX3_size_1 : decode cX3_size 1 = .ok (.iload_n 1, 1) := by decide +kernel
theorem dX3_size_2 : decode cX3_size 2 = .ok (.invokevirtual 105, 3) := by decide +kernel
theorem dX3_size_5 : decode cX3_size 5 = .ok (.istore_n 2, 1) := by decide +kernel
theorem dX3_size_6 : decode cX3_size 6 = .ok (.iload_n 2, 1) := by decide +kernel
theorem dX3_size_7 : decode cX3_size 7 = .ok (.iconst 2, 1) := by decide +kernel
theorem dX3_size_8 : decode cX3_size 8 = .ok (.if_icmp .ge 23, 3) := by decide +kernel
theorem dX3_size_11 : decode cX3_size 11 = .ok (.iload_n 2, 1) := by decide +kernel
theorem dX3_size_12 : decode cX3_size 12 = .ok (.ifCond .ge 7, 3) := by decide +kernel
theorem dX3_size_15 : decode cX3_size 15 = .ok (.iload_n 2, 1) := by decide +kernel
theorem dX3_size_16 : decode cX3_size 16 = .ok (.goto 14, 3) := by decide +kernel
theorem dX3_size_19 : decode cX3_size 19 = .ok (.iload_n 2, 1) := by decide +kernel
theorem dX3_size_20 : decode cX3_size 20 = .ok (.ifCond .ne 8, 3) := by decide +kernel
theorem dX3_size_23 : decode cX3_size 23 = .ok (.bipush (-3), 2) := by decide +kernel
theorem dX3_size_25 : decode cX3_size 25 = .ok (.goto 5, 3) := by decide +kernel
theorem dX3_size_28 : decode cX3_size 28 = .ok (.bipush (-7), 2) := by decide +kernel
theorem dX3_size_30 : decode cX3_size 30 = .ok (.ireturn, 1) := by decide +kernel
theorem dX3_size_31 : decode cX3_size 31 = .ok (.aload_n 0, 1) := by decide +kernel
theorem dX3_size_32 : decode cX3_size 32 = .ok (.iload_n 1, 1) := by decide +kernel
theorem dX3_size_33 : decode cX3_size 33 = .ok (.invokestatic 92, 3) := by decide +kernel
theorem dX3_size_36 : decode cX3_size 36 = .ok (.invokevirtual 108, 3) := by decide +kernel
theorem dX3_size_39 : decode cX3_size 39 = .ok (.ireturn, 1) := by decide +kernel
theorem dX3_name_0 : decode cX3_name 0 = .ok (.aload_n 0, 1) := by decide +kernel
theorem dX3_name_1 : decode cX3_name 1 = .ok (.iload_n 1, 1) := by decide +kernel
theorem dX3_name_2 : decode cX3_name 2 = .ok (.invokevirtual 111, 3) := by decide +kernel
theorem dX3_name_5 : decode cX3_name 5 = .ok (.istore_n 3, 1) := by decide +kernel
theorem dX3_name_6 : decode cX3_name 6 = .ok (.iload_n 3, 1) := by decide +kernel
theorem dX3_name_7 : decode cX3_name 7 = .ok (.ifCond .ge 5, 3) := by decide +kernel
theorem dX3_name_10 : decode cX3_name 10 = .ok (.iload_n 3, 1) := by decide +kernel
theorem dX3_name_11 : decode cX3_name 11 = .ok (.ireturn, 1) := by decide +kernel
theorem dX3_name_12 : decode cX3_name 12 = .ok (.iload_n 1, 1) := by decide +kernel
theorem dX3_name_13 : decode cX3_name 13 = .ok (.invokestatic 92, 3) := by decide +kernel
theorem dX3_name_16 : decode cX3_name 16 = .ok (.istore 4, 2) := by decide +kernel
theorem dX3_name_18 : decode cX3_name 18 = .ok (.iload_n 2, 1) := by decide +kernel
theorem dX3_name_19 : decode cX3_name 19 = .ok (.istore 5, 2) := by decide +kernel
theorem dX3_name_21 : decode cX3_name 21 = .ok (.iconst 1, 1) := by decide +kernel
theorem dX3_name_22 : decode cX3_name 22 = .ok (.istore 6, 2) := by decide +kernel
theorem dX3_name_24 : decode cX3_name 24 = .ok (.iload 6, 2) := by decide +kernel
theorem dX3_name_26 : decode cX3_name 26 = .ok (.iconst 5, 1) := by decide +kernel
theorem dX3_name_27 : decode cX3_name 27 = .ok (.if_icmp .gt 62, 3) := by decide +kernel
theorem dX3_name_30 : decode cX3_name 30 = .ok (.iload_n 2, 1) := by decide +kernel
theorem dX3_name_31 : decode cX3_name 31 = .ok (.ifCond .lt 58, 3) := by decide +kernel
theorem dX3_name_34 : decode cX3_name 34 = .ok (.iload_n 2, 1) := by decide +kernel
theorem dX3_name_35 : decode cX3_name 35 = .ok (.iload_n 3, 1) := by decide +kernel
theorem dX3_name_36 : decode cX3_name 36 = .ok (.if_icmp .ge 53, 3) := by decide +kernel
theorem dX3_name_39 : decode cX3_name 39 = .ok (.aload_n 0, 1) := by decide +kernel
theorem dX3_name_40 : decode cX3_name 40 = .ok (.bipush 6, 2) := by decide +kernel
theorem dX3_name_42 : decode cX3_name 42 = .ok (.iload 4, 2) := by decide +kernel
theorem dX3_name_44 : decode cX3_name 44 = .ok (.imul, 1) := by decide +kernel
theorem dX3_name_45 : decode cX3_name 45 = .ok (.iload 6, 2) := by decide +kernel
theorem dX3_name_47 : decode cX3_name 47 = .ok (.iadd, 1) := by decide +kernel
theorem dX3_name_48 : decode cX3_name 48 = .ok (.invokevirtual 59, 3) := by decide +kernel
theorem dX3_name_51 : decode cX3_name 51 = .ok (.aload_n 0, 1) := by decide +kernel
theorem dX3_name_52 : decode cX3_name 52 = .ok (.getfield 43, 3) := by decide +kernel
theorem dX3_name_55 : decode cX3_name 55 = .ok (.ifCond .le 11, 3) := by decide +kernel
theorem dX3_name_58 : decode cX3_name 58 = .ok (.iload 5, 2) := by decide +kernel
theorem dX3_name_60 : decode cX3_name 60 = .ok (.ifCond .ne 6, 3) := by decide +kernel
theorem dX3_name_63 : decode cX3_name 63 = .ok (.iload 6, 2) := by decide +kernel
theorem dX3_name_65 : decode cX3_name 65 = .ok (.ireturn, 1) := by decide +kernel
theorem dX3_name_66 : decode cX3_name 66 = .ok (.iload 5, 2) := by decide +kernel
theorem dX3_name_68 : decode cX3_name 68 = .ok (.aload_n 0, 1) := by decide +kernel
theorem dX3_name_69 : decode cX3_name 69 = .ok (.getfield 43, 3) := by decide +kernel
theorem dX3_name_72 : decode cX3_name 72 = .ok (.ifCond .le 7, 3) := by decide +kernel
theorem dX3_name_75 : decode cX3_name 75 = .ok (.iconst 1, 1) := by decide +kernel
theorem dX3_name_76 : decode cX3_name 76 = .ok (.goto 4, 3) := by decide +kernel
theorem dX3_name_79 : decode cX3_name 79 = .ok (.iconst 0, 1) := by decide +kernel
theorem dX3_name_80 : decode cX3_name 80 = .ok (.isub, 1) := by decide +kernel
theorem dX3_name_81 : decode cX3_name 81 = .ok (.istore 5, 2) := by decide +kernel
theorem dX3_name_83 : decode cX3_name 83 = .ok (.iinc 6 1, 3) := by decide +kernel
theorem dX3_name_86 : decode cX3_name 86 = .ok (.goto (-62), 3) := by decide +kernel
theorem dX3_name_89 : decode cX3_name 89 = .ok (.bipush (-3), 2) := by decide +kernel
theorem dX3_name_91 : decode cX3_name 91 = .ok (.ireturn, 1) := by decide +kernel
theorem dX3_objects_0 : decode cX3_objects 0 = .ok (.aload_n 0, 1) := by decide +kernel
theorem dX3_objects_1 : decode cX3_objects 1 = .ok (.getfield 95, 3) := by decide +kernel
theorem dX3_objects_4 : decode cX3_objects 4 = .ok (.ifCond .ne 5, 3) := by decide +kernel
theorem dX3_objects_7 : decode cX3_objects 7 = .ok (.iconst (-1), 1) := by decide +kernel
theorem dX3_objects_8 : decode cX3_objects 8 = .ok (.ireturn, 1) := by decide +kernel
theorem dX3_objects_9 : decode cX3_objects 9 = .ok (.iconst 0, 1) := by decide +kernel
theorem dX3_objects_10 : decode cX3_objects 10 = .ok (.istore_n 1, 1) := by decide +kernel
theorem dX3_objects_11 : decode cX3_objects 11 = .ok (.iconst 1, 1) := by decide +kernel
theorem dX3_objects_12 : decode cX3_objects 12 = .ok (.istore_n 2, 1) := by decide +kernel
theorem dX3_objects_13 : decode cX3_objects 13 = .ok (.iload_n 2, 1) := by decide +kernel
theorem dX3_objects_14 : decode cX3_objects 14 = .ok (.sipush 1296, 3) := by decide +kernel
theorem dX3_objects_17 : decode cX3_objects 17 = .ok (.if_icmp .ge 42, 3) := by decide +kernel
theorem dX3_objects_20 : decode cX3_objects 20 = .ok (.iload_n 2, 1) := by decide +kernel
theorem dX3_objects_21 : decode cX3_objects 21 = .ok (.invokestatic 114, 3) := by decide +kernel
theorem dX3_objects_24 : decode cX3_objects 24 = .ok (.istore_n 3, 1) := by decide +kernel
theorem dX3_objects_25 : decode cX3_objects 25 = .ok (.iload_n 3, 1) := by decide +kernel
theorem dX3_objects_26 : decode cX3_objects 26 = .ok (.ifCond .eq 8, 3) := by decide +kernel
theorem dX3_objects_29 : decode cX3_objects 29 = .ok (.aload_n 0, 1) := by decide +kernel
theorem dX3_objects_30 : decode cX3_objects 30 = .ok (.iload_n 2, 1) := by decide +kernel
theorem dX3_objects_31 : decode cX3_objects 31 = .ok (.invokevirtual 59, 3) := by decide +kernel
theorem dX3_objects_34 : decode cX3_objects 34 = .ok (.iload_n 1, 1) := by decide +kernel
theorem dX3_objects_35 : decode cX3_objects 35 = .ok (.iload_n 3, 1) := by decide +kernel
theorem dX3_objects_36 : decode cX3_objects 36 = .ok (.ifCond .eq 14, 3) := by decide +kernel
theorem dX3_objects_39 : decode cX3_objects 39 = .ok (.aload_n 0, 1) := by decide +kernel
theorem dX3_objects_40 : decode cX3_objects 40 = .ok (.getfield 43, 3) := by decide +kernel
theorem dX3_objects_43 : decode cX3_objects 43 = .ok (.ifCond .le 7, 3) := by decide +kernel
theorem dX3_objects_46 : decode cX3_objects 46 = .ok (.iconst 1, 1) := by decide +kernel
theorem dX3_objects_47 : decode cX3_objects 47 = .ok (.goto 4, 3) := by decide +kernel
theorem dX3_objects_50 : decode cX3_objects 50 = .ok (.iconst 0, 1) := by decide +kernel
theorem dX3_objects_51 : decode cX3_objects 51 = .ok (.iadd, 1) := by decide +kernel
theorem dX3_objects_52 : decode cX3_objects 52 = .ok (.istore_n 1, 1) := by decide +kernel
theorem dX3_objects_53 : decode cX3_objects 53 = .ok (.iinc 2 1, 3) := by decide +kernel
theorem dX3_objects_56 : decode cX3_objects 56 = .ok (.goto (-43), 3) := by decide +kernel
theorem dX3_objects_59 : decode cX3_objects 59 = .ok (.iload_n 1, 1) := by decide +kernel
theorem dX3_objects_60 : decode cX3_objects 60 = .ok (.ireturn, 1) := by decide +kernel
theorem dX3_origin_0 : decode cX3_origin 0 = .ok (.aload_n 0, 1) := by decide +kernel
theorem dX3_origin_1 : decode cX3_origin 1 = .ok (.iload_n 1, 1) := by decide +kernel
theorem dX3_origin_2 : decode cX3_origin 2 = .ok (.invokevirtual 105, 3) := by decide +kernel
theorem dX3_origin_5 : decode cX3_origin 5 = .ok (.istore_n 2, 1) := by decide +kernel
theorem dX3_origin_6 : decode cX3_origin 6 = .ok (.iload_n 2, 1) := by decide +kernel
theorem dX3_origin_7 : decode cX3_origin 7 = .ok (.ifCond .ge 7, 3) := by decide +kernel
theorem dX3_origin_10 : decode cX3_origin 10 = .ok (.iload_n 2, 1) := by decide +kernel
theorem dX3_origin_11 : decode cX3_origin 11 = .ok (.goto 25, 3) := by decide +kernel
theorem dX3_origin_14 : decode cX3_origin 14 = .ok (.iload_n 1, 1) := by decide +kernel
theorem dX3_origin_15 : decode cX3_origin 15 = .ok (.ifCond .ne 8, 3) := by decide +kernel
theorem dX3_origin_18 : decode cX3_origin 18 = .ok (.bipush (-2), 2) := by decide +kernel
theorem dX3_origin_20 : decode cX3_origin 20 = .ok (.goto 16, 3) := by decide +kernel
theorem dX3_origin_23 : decode cX3_origin 23 = .ok (.iload_n 2, 1) := by decide +kernel
theorem dX3_origin_24 : decode cX3_origin 24 = .ok (.ifCond .ne 8, 3) := by decide +kernel
theorem dX3_origin_27 : decode cX3_origin 27 = .ok (.bipush (-3), 2) := by decide +kernel
theorem dX3_origin_29 : decode cX3_origin 29 = .ok (.goto 7, 3) := by decide +kernel
theorem dX3_origin_32 : decode cX3_origin 32 = .ok (.aload_n 0, 1) := by decide +kernel
theorem dX3_origin_33 : decode cX3_origin 33 = .ok (.getfield 49, 3) := by decide +kernel
theorem dX3_origin_36 : decode cX3_origin 36 = .ok (.ireturn, 1) := by decide +kernel
theorem dX3_target_0 : decode cX3_target 0 = .ok (.iload_n 1, 1) := by decide +kernel
theorem dX3_target_1 : decode cX3_target 1 = .ok (.invokestatic 92, 3) := by decide +kernel
theorem dX3_target_4 : decode cX3_target 4 = .ok (.istore_n 2, 1) := by decide +kernel
theorem dX3_target_5 : decode cX3_target 5 = .ok (.aload_n 0, 1) := by decide +kernel
theorem dX3_target_6 : decode cX3_target 6 = .ok (.getfield 95, 3) := by decide +kernel
theorem dX3_target_9 : decode cX3_target 9 = .ok (.ifCond .ne 7, 3) := by decide +kernel
theorem dX3_target_12 : decode cX3_target 12 = .ok (.iconst (-1), 1) := by decide +kernel
theorem dX3_target_13 : decode cX3_target 13 = .ok (.goto 13, 3) := by decide +kernel
theorem dX3_target_16 : decode cX3_target 16 = .ok (.iload_n 2, 1) := by decide +kernel
theorem dX3_target_17 : decode cX3_target 17 = .ok (.ifCond .gt 8, 3) := by decide +kernel
theorem dX3_target_20 : decode cX3_target 20 = .ok (.bipush (-2), 2) := by decide +kernel
theorem dX3_target_22 : decode cX3_target 22 = .ok (.goto 4, 3) := by decide +kernel
theorem dX3_target_25 : decode cX3_target 25 = .ok (.iload_n 2, 1) := by decide +kernel
theorem dX3_target_26 : decode cX3_target 26 = .ok (.ireturn, 1) := by decide +kernel
theorem dX3_isDirectory_0 : decode cX3_isDirectory 0 = .ok (.aload_n 0, 1) := by decide +kernel
theorem dX3_isDirectory_1 : decode cX3_isDirectory 1 = .ok (.iload_n 1, 1) := by decide +kernel
theorem dX3_isDirectory_2 : decode cX3_isDirectory 2 = .ok (.invokevirtual 59, 3) := by decide +kernel
theorem dX3_isDirectory_5 : decode cX3_isDirectory 5 = .ok (.aload_n 0, 1) := by decide +kernel
theorem dX3_isDirectory_6 : decode cX3_isDirectory 6 = .ok (.getfield 43, 3) := by decide +kernel
theorem dX3_isDirectory_9 : decode cX3_isDirectory 9 = .ok (.iconst 2, 1) := by decide +kernel
theorem dX3_isDirectory_10 : decode cX3_isDirectory 10 = .ok (.if_icmp .ne 7, 3) := by decide +kernel
theorem dX3_isDirectory_13 : decode cX3_isDirectory 13 = .ok (.iconst 1, 1) := by decide +kernel
theorem dX3_isDirectory_14 : decode cX3_isDirectory 14 = .ok (.goto 4, 3) := by decide +kernel
theorem dX3_isDirectory_17 : decode cX3_isDirectory 17 = .ok (.iconst 0, 1) := by decide +kernel
theorem dX3_isDirectory_18 : decode cX3_isDirectory 18 = .ok (.ireturn, 1) := by decide +kernel
theorem dX3_makeDir_0 : decode cX3_makeDir 0 = .ok (.aload_n 0, 1) := by decide +kernel
theorem dX3_makeDir_1 : decode cX3_makeDir 1 = .ok (.iload_n 1, 1) := by decide +kernel
theorem dX3_makeDir_2 : decode cX3_makeDir 2 = .ok (.invokevirtual 117, 3) := by decide +kernel
theorem dX3_makeDir_5 : decode cX3_makeDir 5 = .ok (.istore_n 2, 1) := by decide +kernel
theorem dX3_makeDir_6 : decode cX3_makeDir 6 = .ok (.iload_n 2, 1) := by decide +kernel
theorem dX3_makeDir_7 : decode cX3_makeDir 7 = .ok (.ifCond .ge 5, 3) := by decide +kernel
theorem dX3_makeDir_10 : decode cX3_makeDir 10 = .ok (.iload_n 2, 1) := by decide +kernel
theorem dX3_makeDir_11 : decode cX3_makeDir 11 = .ok (.ireturn, 1) := by decide +kernel
theorem dX3_makeDir_12 : decode cX3_makeDir 12 = .ok (.aload_n 0, 1) := by decide +kernel
theorem dX3_makeDir_13 : decode cX3_makeDir 13 = .ok (.iload_n 2, 1) := by decide +kernel
theorem dX3_makeDir_14 : decode cX3_makeDir 14 = .ok (.bipush 6, 2) := by decide +kernel
theorem dX3_makeDir_16 : decode cX3_makeDir 16 = .ok (.idiv, 1) := by decide +kernel
theorem dX3_makeDir_17 : decode cX3_makeDir 17 = .ok (.invokevirtual 120, 3) := by decide +kernel
theorem dX3_makeDir_20 : decode cX3_makeDir 20 = .ok (.ifCond .ne 6, 3) := by decide +kernel
theorem dX3_makeDir_23 : decode cX3_makeDir 23 = .ok (.bipush (-4), 2) := by decide +kernel
theorem dX3_makeDir_25 : decode cX3_makeDir 25 = .ok (.ireturn, 1) := by decide +kernel
theorem dX3_makeDir_26 : decode cX3_makeDir 26 = .ok (.aload_n 0, 1) := by decide +kernel
theorem dX3_makeDir_27 : decode cX3_makeDir 27 = .ok (.iload_n 2, 1) := by decide +kernel
theorem dX3_makeDir_28 : decode cX3_makeDir 28 = .ok (.invokevirtual 59, 3) := by decide +kernel
theorem dX3_makeDir_31 : decode cX3_makeDir 31 = .ok (.aload_n 0, 1) := by decide +kernel
theorem dX3_makeDir_32 : decode cX3_makeDir 32 = .ok (.getfield 43, 3) := by decide +kernel
theorem dX3_makeDir_35 : decode cX3_makeDir 35 = .ok (.ifCond .le 6, 3) := by decide +kernel
theorem dX3_makeDir_38 : decode cX3_makeDir 38 = .ok (.bipush (-5), 2) := by decide +kernel
theorem dX3_makeDir_40 : decode cX3_makeDir 40 = .ok (.ireturn, 1) := by decide +kernel
theorem dX3_makeDir_41 : decode cX3_makeDir 41 = .ok (.aload_n 0, 1) := by decide +kernel
theorem dX3_makeDir_42 : decode cX3_makeDir 42 = .ok (.getfield 69, 3) := by decide +kernel
theorem dX3_makeDir_45 : decode cX3_makeDir 45 = .ok (.istore_n 3, 1) := by decide +kernel
theorem dX3_makeDir_46 : decode cX3_makeDir 46 = .ok (.aload_n 0, 1) := by decide +kernel
theorem dX3_makeDir_47 : decode cX3_makeDir 47 = .ok (.invokevirtual 123, 3) := by decide +kernel
theorem dX3_makeDir_50 : decode cX3_makeDir 50 = .ok (.aload_n 0, 1) := by decide +kernel
theorem dX3_makeDir_51 : decode cX3_makeDir 51 = .ok (.iload_n 2, 1) := by decide +kernel
theorem dX3_makeDir_52 : decode cX3_makeDir 52 = .ok (.iconst 2, 1) := by decide +kernel
theorem dX3_makeDir_53 : decode cX3_makeDir 53 = .ok (.iconst 0, 1) := by decide +kernel
theorem dX3_makeDir_54 : decode cX3_makeDir 54 = .ok (.invokevirtual 126, 3) := by decide +kernel
theorem dX3_makeDir_57 : decode cX3_makeDir 57 = .ok (.aload_n 0, 1) := by decide +kernel
theorem dX3_makeDir_58 : decode cX3_makeDir 58 = .ok (.iload_n 3, 1) := by decide +kernel
theorem dX3_makeDir_59 : decode cX3_makeDir 59 = .ok (.invokevirtual 129, 3) := by decide +kernel
theorem dX3_makeDir_62 : decode cX3_makeDir 62 = .ok (.ireturn, 1) := by decide +kernel
theorem dX3_write_0 : decode cX3_write 0 = .ok (.aload_n 0, 1) := by decide +kernel
theorem dX3_write_1 : decode cX3_write 1 = .ok (.iload_n 1, 1) := by decide +kernel
theorem dX3_write_2 : decode cX3_write 2 = .ok (.invokevirtual 117, 3) := by decide +kernel
theorem dX3_write_5 : decode cX3_write 5 = .ok (.istore_n 3, 1) := by decide +kernel
theorem dX3_write_6 : decode cX3_write 6 = .ok (.iload_n 3, 1) := by decide +kernel
theorem dX3_write_7 : decode cX3_write 7 = .ok (.iconst (-1), 1) := by decide +kernel
theorem dX3_write_8 : decode cX3_write 8 = .ok (.if_icmp .eq 13, 3) := by decide +kernel
theorem dX3_write_11 : decode cX3_write 11 = .ok (.iload_n 3, 1) := by decide +kernel
theorem dX3_write_12 : decode cX3_write 12 = .ok (.bipush (-2), 2) := by decide +kernel
theorem dX3_write_14 : decode cX3_write 14 = .ok (.if_icmp .eq 7, 3) := by decide +kernel
theorem dX3_write_17 : decode cX3_write 17 = .ok (.iload_n 2, 1) := by decide +kernel
theorem dX3_write_18 : decode cX3_write 18 = .ok (.ifCond .ge 15, 3) := by decide +kernel
theorem dX3_write_21 : decode cX3_write 21 = .ok (.iload_n 3, 1) := by decide +kernel
theorem dX3_write_22 : decode cX3_write 22 = .ok (.iconst (-1), 1) := by decide +kernel
theorem dX3_write_23 : decode cX3_write 23 = .ok (.if_icmp .ne 7, 3) := by decide +kernel
theorem dX3_write_26 : decode cX3_write 26 = .ok (.iconst (-1), 1) := by decide +kernel
theorem dX3_write_27 : decode cX3_write 27 = .ok (.goto 5, 3) := by decide +kernel
theorem dX3_write_30 : decode cX3_write 30 = .ok (.bipush (-2), 2) := by decide +kernel
theorem dX3_write_32 : decode cX3_write 32 = .ok (.ireturn, 1) := by decide +kernel
theorem dX3_write_33 : decode cX3_write 33 = .ok (.aload_n 0, 1) := by decide +kernel
theorem dX3_write_34 : decode cX3_write 34 = .ok (.iload_n 3, 1) := by decide +kernel
theorem dX3_write_35 : decode cX3_write 35 = .ok (.bipush 6, 2) := by decide +kernel
theorem dX3_write_37 : decode cX3_write 37 = .ok (.idiv, 1) := by decide +kernel
theorem dX3_write_38 : decode cX3_write 38 = .ok (.invokevirtual 120, 3) := by decide +kernel
theorem dX3_write_41 : decode cX3_write 41 = .ok (.ifCond .ne 6, 3) := by decide +kernel
theorem dX3_write_44 : decode cX3_write 44 = .ok (.bipush (-4), 2) := by decide +kernel
theorem dX3_write_46 : decode cX3_write 46 = .ok (.ireturn, 1) := by decide +kernel
theorem dX3_write_47 : decode cX3_write 47 = .ok (.aload_n 0, 1) := by decide +kernel
theorem dX3_write_48 : decode cX3_write 48 = .ok (.iload_n 3, 1) := by decide +kernel
theorem dX3_write_49 : decode cX3_write 49 = .ok (.invokevirtual 59, 3) := by decide +kernel
theorem dX3_write_52 : decode cX3_write 52 = .ok (.aload_n 0, 1) := by decide +kernel
theorem dX3_write_53 : decode cX3_write 53 = .ok (.getfield 43, 3) := by decide +kernel
theorem dX3_write_56 : decode cX3_write 56 = .ok (.iconst 2, 1) := by decide +kernel
theorem dX3_write_57 : decode cX3_write 57 = .ok (.if_icmp .ne 6, 3) := by decide +kernel
theorem dX3_write_60 : decode cX3_write 60 = .ok (.bipush (-6), 2) := by decide +kernel
theorem dX3_write_62 : decode cX3_write 62 = .ok (.ireturn, 1) := by decide +kernel
theorem dX3_write_63 : decode cX3_write 63 = .ok (.aload_n 0, 1) := by decide +kernel
theorem dX3_write_64 : decode cX3_write 64 = .ok (.getfield 69, 3) := by decide +kernel
theorem dX3_write_67 : decode cX3_write 67 = .ok (.istore 4, 2) := by decide +kernel
theorem dX3_write_69 : decode cX3_write 69 = .ok (.aload_n 0, 1) := by decide +kernel
theorem dX3_write_70 : decode cX3_write 70 = .ok (.getfield 43, 3) := by decide +kernel
theorem dX3_write_73 : decode cX3_write 73 = .ok (.iconst 1, 1) := by decide +kernel
theorem dX3_write_74 : decode cX3_write 74 = .ok (.if_icmp .ne 18, 3) := by decide +kernel
theorem dX3_write_77 : decode cX3_write 77 = .ok (.aload_n 0, 1) := by decide +kernel
theorem dX3_write_78 : decode cX3_write 78 = .ok (.getfield 49, 3) := by decide +kernel
theorem dX3_write_81 : decode cX3_write 81 = .ok (.aload_n 0, 1) := by decide +kernel
theorem dX3_write_82 : decode cX3_write 82 = .ok (.getfield 31, 3) := by decide +kernel
theorem dX3_write_85 : decode cX3_write 85 = .ok (.if_icmp .ge 7, 3) := by decide +kernel
theorem dX3_write_88 : decode cX3_write 88 = .ok (.iconst 1, 1) := by decide +kernel
theorem dX3_write_89 : decode cX3_write 89 = .ok (.goto 4, 3) := by decide +kernel
theorem dX3_write_92 : decode cX3_write 92 = .ok (.iconst 0, 1) := by decide +kernel
theorem dX3_write_93 : decode cX3_write 93 = .ok (.istore 5, 2) := by decide +kernel
theorem dX3_write_95 : decode cX3_write 95 = .ok (.aload_n 0, 1) := by decide +kernel
theorem dX3_write_96 : decode cX3_write 96 = .ok (.invokevirtual 123, 3) := by decide +kernel
theorem dX3_write_99 : decode cX3_write 99 = .ok (.aload_n 0, 1) := by decide +kernel
theorem dX3_write_100 : decode cX3_write 100 = .ok (.iload_n 3, 1) := by decide +kernel
theorem dX3_write_101 : decode cX3_write 101 = .ok (.iconst 1, 1) := by decide +kernel
theorem dX3_write_102 : decode cX3_write 102 = .ok (.iload_n 2, 1) := by decide +kernel
theorem dX3_write_103 : decode cX3_write 103 = .ok (.invokevirtual 126, 3) := by decide +kernel
theorem dX3_write_106 : decode cX3_write 106 = .ok (.aload_n 0, 1) := by decide +kernel
theorem dX3_write_107 : decode cX3_write 107 = .ok (.dup, 1) := by decide +kernel
theorem dX3_write_108 : decode cX3_write 108 = .ok (.getfield 69, 3) := by decide +kernel
theorem dX3_write_111 : decode cX3_write 111 = .ok (.iload 5, 2) := by decide +kernel
theorem dX3_write_113 : decode cX3_write 113 = .ok (.ifCond .eq 7, 3) := by decide +kernel
theorem dX3_write_116 : decode cX3_write 116 = .ok (.iconst 1, 1) := by decide +kernel
theorem dX3_write_117 : decode cX3_write 117 = .ok (.goto 4, 3) := by decide +kernel
theorem dX3_write_120 : decode cX3_write 120 = .ok (.iconst 0, 1) := by decide +kernel
theorem dX3_write_121 : decode cX3_write 121 = .ok (.iadd, 1) := by decide +kernel
theorem dX3_write_122 : decode cX3_write 122 = .ok (.putfield 69, 3) := by decide +kernel
theorem dX3_write_125 : decode cX3_write 125 = .ok (.aload_n 0, 1) := by decide +kernel
theorem dX3_write_126 : decode cX3_write 126 = .ok (.iload 4, 2) := by decide +kernel
theorem dX3_write_128 : decode cX3_write 128 = .ok (.invokevirtual 129, 3) := by decide +kernel
theorem dX3_write_131 : decode cX3_write 131 = .ok (.ireturn, 1) := by decide +kernel
theorem dX3_remove_0 : decode cX3_remove 0 = .ok (.aload_n 0, 1) := by decide +kernel
theorem dX3_remove_1 : decode cX3_remove 1 = .ok (.iload_n 1, 1) := by decide +kernel
theorem dX3_remove_2 : decode cX3_remove 2 = .ok (.invokevirtual 117, 3) := by decide +kernel
theorem dX3_remove_5 : decode cX3_remove 5 = .ok (.istore_n 2, 1) := by decide +kernel
theorem dX3_remove_6 : decode cX3_remove 6 = .ok (.iload_n 2, 1) := by decide +kernel
theorem dX3_remove_7 : decode cX3_remove 7 = .ok (.ifCond .ge 5, 3) := by decide +kernel
theorem dX3_remove_10 : decode cX3_remove 10 = .ok (.iload_n 2, 1) := by decide +kernel
theorem dX3_remove_11 : decode cX3_remove 11 = .ok (.ireturn, 1) := by decide +kernel
theorem dX3_remove_12 : decode cX3_remove 12 = .ok (.aload_n 0, 1) := by decide +kernel
theorem dX3_remove_13 : decode cX3_remove 13 = .ok (.iload_n 2, 1) := by decide +kernel
theorem dX3_remove_14 : decode cX3_remove 14 = .ok (.invokevirtual 59, 3) := by decide +kernel
theorem dX3_remove_17 : decode cX3_remove 17 = .ok (.aload_n 0, 1) := by decide +kernel
theorem dX3_remove_18 : decode cX3_remove 18 = .ok (.getfield 43, 3) := by decide +kernel
theorem dX3_remove_21 : decode cX3_remove 21 = .ok (.ifCond .ne 6, 3) := by decide +kernel
theorem dX3_remove_24 : decode cX3_remove 24 = .ok (.bipush (-3), 2) := by decide +kernel
theorem dX3_remove_26 : decode cX3_remove 26 = .ok (.ireturn, 1) := by decide +kernel
theorem dX3_remove_27 : decode cX3_remove 27 = .ok (.aload_n 0, 1) := by decide +kernel
theorem dX3_remove_28 : decode cX3_remove 28 = .ok (.getfield 43, 3) := by decide +kernel
theorem dX3_remove_31 : decode cX3_remove 31 = .ok (.iconst 2, 1) := by decide +kernel
theorem dX3_remove_32 : decode cX3_remove 32 = .ok (.if_icmp .ne 14, 3) := by decide +kernel
theorem dX3_remove_35 : decode cX3_remove 35 = .ok (.aload_n 0, 1) := by decide +kernel
theorem dX3_remove_36 : decode cX3_remove 36 = .ok (.iload_n 2, 1) := by decide +kernel
theorem dX3_remove_37 : decode cX3_remove 37 = .ok (.invokevirtual 108, 3) := by decide +kernel
theorem dX3_remove_40 : decode cX3_remove 40 = .ok (.ifCond .le 6, 3) := by decide +kernel
theorem dX3_remove_43 : decode cX3_remove 43 = .ok (.bipush (-8), 2) := by decide +kernel
theorem dX3_remove_45 : decode cX3_remove 45 = .ok (.ireturn, 1) := by decide +kernel
theorem dX3_remove_46 : decode cX3_remove 46 = .ok (.aload_n 0, 1) := by decide +kernel
theorem dX3_remove_47 : decode cX3_remove 47 = .ok (.getfield 69, 3) := by decide +kernel
theorem dX3_remove_50 : decode cX3_remove 50 = .ok (.istore_n 3, 1) := by decide +kernel
theorem dX3_remove_51 : decode cX3_remove 51 = .ok (.aload_n 0, 1) := by decide +kernel
theorem dX3_remove_52 : decode cX3_remove 52 = .ok (.invokevirtual 123, 3) := by decide +kernel
theorem dX3_remove_55 : decode cX3_remove 55 = .ok (.aload_n 0, 1) := by decide +kernel
theorem dX3_remove_56 : decode cX3_remove 56 = .ok (.iload_n 2, 1) := by decide +kernel
theorem dX3_remove_57 : decode cX3_remove 57 = .ok (.invokevirtual 132, 3) := by decide +kernel
theorem dX3_remove_60 : decode cX3_remove 60 = .ok (.aload_n 0, 1) := by decide +kernel
theorem dX3_remove_61 : decode cX3_remove 61 = .ok (.iload_n 3, 1) := by decide +kernel
theorem dX3_remove_62 : decode cX3_remove 62 = .ok (.invokevirtual 129, 3) := by decide +kernel
theorem dX3_remove_65 : decode cX3_remove 65 = .ok (.ireturn, 1) := by decide +kernel
theorem dX3_note_0 : decode cX3_note 0 = .ok (.iconst 0, 1) := by decide +kernel
theorem dX3_note_1 : decode cX3_note 1 = .ok (.istore_n 2, 1) := by decide +kernel
theorem dX3_note_2 : decode cX3_note 2 = .ok (.aload_n 0, 1) := by decide +kernel
theorem dX3_note_3 : decode cX3_note 3 = .ok (.iconst 0, 1) := by decide +kernel
theorem dX3_note_4 : decode cX3_note 4 = .ok (.putfield 135, 3) := by decide +kernel
theorem dX3_note_7 : decode cX3_note 7 = .ok (.iload_n 1, 1) := by decide +kernel
theorem dX3_note_8 : decode cX3_note 8 = .ok (.istore_n 3, 1) := by decide +kernel
theorem dX3_note_9 : decode cX3_note 9 = .ok (.iload_n 3, 1) := by decide +kernel
theorem dX3_note_10 : decode cX3_note 10 = .ok (.sipush 1296, 3) := by decide +kernel
theorem dX3_note_13 : decode cX3_note 13 = .ok (.if_icmp .ge 128, 3) := by decide +kernel
theorem dX3_note_16 : decode cX3_note 16 = .ok (.iload_n 3, 1) := by decide +kernel
theorem dX3_note_17 : decode cX3_note 17 = .ok (.iload_n 1, 1) := by decide +kernel
theorem dX3_note_18 : decode cX3_note 18 = .ok (.if_icmp .eq 18, 3) := by decide +kernel
theorem dX3_note_21 : decode cX3_note 21 = .ok (.iload_n 3, 1) := by decide +kernel
theorem dX3_note_22 : decode cX3_note 22 = .ok (.iload_n 1, 1) := by decide +kernel
theorem dX3_note_23 : decode cX3_note 23 = .ok (.invokestatic 72, 3) := by decide +kernel
theorem dX3_note_26 : decode cX3_note 26 = .ok (.ifCond .eq 14, 3) := by decide +kernel
theorem dX3_note_29 : decode cX3_note 29 = .ok (.iload_n 3, 1) := by decide +kernel
theorem dX3_note_30 : decode cX3_note 30 = .ok (.invokestatic 114, 3) := by decide +kernel
theorem dX3_note_33 : decode cX3_note 33 = .ok (.ifCond .eq 7, 3) := by decide +kernel
theorem dX3_note_36 : decode cX3_note 36 = .ok (.iconst 1, 1) := by decide +kernel
theorem dX3_note_37 : decode cX3_note 37 = .ok (.goto 4, 3) := by decide +kernel
theorem dX3_note_40 : decode cX3_note 40 = .ok (.iconst 0, 1) := by decide +kernel
theorem dX3_note_41 : decode cX3_note 41 = .ok (.istore 4, 2) := by decide +kernel
theorem dX3_note_43 : decode cX3_note 43 = .ok (.iload 4, 2) := by decide +kernel
theorem dX3_note_45 : decode cX3_note 45 = .ok (.ifCond .eq 8, 3) := by decide +kernel
theorem dX3_note_48 : decode cX3_note 48 = .ok (.aload_n 0, 1) := by decide +kernel
theorem dX3_note_49 : decode cX3_note 49 = .ok (.iload_n 3, 1) := by decide +kernel
theorem dX3_note_50 : decode cX3_note 50 = .ok (.invokevirtual 59, 3) := by decide +kernel
theorem dX3_note_53 : decode cX3_note 53 = .ok (.iload 4, 2) := by decide +kernel
theorem dX3_note_55 : decode cX3_note 55 = .ok (.ifCond .eq 80, 3) := by decide +kernel
theorem dX3_note_58 : decode cX3_note 58 = .ok (.aload_n 0, 1) := by decide +kernel
theorem dX3_note_59 : decode cX3_note 59 = .ok (.getfield 43, 3) := by decide +kernel
theorem dX3_note_62 : decode cX3_note 62 = .ok (.ifCond .le 73, 3) := by decide +kernel
theorem dX3_note_65 : decode cX3_note 65 = .ok (.aload_n 0, 1) := by decide +kernel
theorem dX3_note_66 : decode cX3_note 66 = .ok (.getfield 22, 3) := by decide +kernel
theorem dX3_note_69 : decode cX3_note 69 = .ok (.aload_n 0, 1) := by decide +kernel
theorem dX3_note_70 : decode cX3_note 70 = .ok (.getfield 135, 3) := by decide +kernel
theorem dX3_note_73 : decode cX3_note 73 = .ok (.iload_n 3, 1) := by decide +kernel
theorem dX3_note_74 : decode cX3_note 74 = .ok (.iastore, 1) := by decide +kernel
theorem dX3_note_75 : decode cX3_note 75 = .ok (.aload_n 0, 1) := by decide +kernel
theorem dX3_note_76 : decode cX3_note 76 = .ok (.getfield 25, 3) := by decide +kernel
theorem dX3_note_79 : decode cX3_note 79 = .ok (.aload_n 0, 1) := by decide +kernel
theorem dX3_note_80 : decode cX3_note 80 = .ok (.getfield 135, 3) := by decide +kernel
theorem dX3_note_83 : decode cX3_note 83 = .ok (.aload_n 0, 1) := by decide +kernel
theorem dX3_note_84 : decode cX3_note 84 = .ok (.getfield 43, 3) := by decide +kernel
theorem dX3_note_87 : decode cX3_note 87 = .ok (.iastore, 1) := by decide +kernel
theorem dX3_note_88 : decode cX3_note 88 = .ok (.aload_n 0, 1) := by decide +kernel
theorem dX3_note_89 : decode cX3_note 89 = .ok (.getfield 28, 3) := by decide +kernel
theorem dX3_note_92 : decode cX3_note 92 = .ok (.aload_n 0, 1) := by decide +kernel
theorem dX3_note_93 : decode cX3_note 93 = .ok (.getfield 135, 3) := by decide +kernel
theorem dX3_note_96 : decode cX3_note 96 = .ok (.aload_n 0, 1) := by decide +kernel
theorem dX3_note_97 : decode cX3_note 97 = .ok (.getfield 52, 3) := by decide +kernel
theorem dX3_note_100 : decode cX3_note 100 = .ok (.iastore, 1) := by decide +kernel
theorem dX3_note_101 : decode cX3_note 101 = .ok (.aload_n 0, 1) := by decide +kernel
theorem dX3_note_102 : decode cX3_note 102 = .ok (.dup, 1) := by decide +kernel
theorem dX3_note_103 : decode cX3_note 103 = .ok (.getfield 135, 3) := by decide +kernel
theorem dX3_note_106 : decode cX3_note 106 = .ok (.iconst 1, 1) := by decide +kernel
theorem dX3_note_107 : decode cX3_note 107 = .ok (.iadd, 1) := by decide +kernel
theorem dX3_note_108 : decode cX3_note 108 = .ok (.putfield 135, 3) := by decide +kernel
theorem dX3_note_111 : decode cX3_note 111 = .ok (.iload_n 3, 1) := by decide +kernel
theorem dX3_note_112 : decode cX3_note 112 = .ok (.invokestatic 35, 3) := by decide +kernel
theorem dX3_note_115 : decode cX3_note 115 = .ok (.iload_n 1, 1) := by decide +kernel
theorem dX3_note_116 : decode cX3_note 116 = .ok (.invokestatic 35, 3) := by decide +kernel
theorem dX3_note_119 : decode cX3_note 119 = .ok (.isub, 1) := by decide +kernel
theorem dX3_note_120 : decode cX3_note 120 = .ok (.istore 5, 2) := by decide +kernel
theorem dX3_note_122 : decode cX3_note 122 = .ok (.iload 5, 2) := by decide +kernel
theorem dX3_note_124 : decode cX3_note 124 = .ok (.iload_n 2, 1) := by decide +kernel
theorem dX3_note_125 : decode cX3_note 125 = .ok (.if_icmp .le 8, 3) := by decide +kernel
theorem dX3_note_128 : decode cX3_note 128 = .ok (.iload 5, 2) := by decide +kernel
theorem dX3_note_130 : decode cX3_note 130 = .ok (.goto 4, 3) := by decide +kernel
theorem dX3_note_133 : decode cX3_note 133 = .ok (.iload_n 2, 1) := by decide +kernel
theorem dX3_note_134 : decode cX3_note 134 = .ok (.istore_n 2, 1) := by decide +kernel
theorem dX3_note_135 : decode cX3_note 135 = .ok (.iinc 3 1, 3) := by decide +kernel
theorem dX3_note_138 : decode cX3_note 138 = .ok (.goto (-129), 3) := by decide +kernel
theorem dX3_note_141 : decode cX3_note 141 = .ok (.iload_n 2, 1) := by decide +kernel
theorem dX3_note_142 : decode cX3_note 142 = .ok (.ireturn, 1) := by decide +kernel
theorem dX3_rename_0 : decode cX3_rename 0 = .ok (.aload_n 0, 1) := by decide +kernel
theorem dX3_rename_1 : decode cX3_rename 1 = .ok (.iload_n 1, 1) := by decide +kernel
theorem dX3_rename_2 : decode cX3_rename 2 = .ok (.invokevirtual 117, 3) := by decide +kernel
theorem dX3_rename_5 : decode cX3_rename 5 = .ok (.istore_n 3, 1) := by decide +kernel
theorem dX3_rename_6 : decode cX3_rename 6 = .ok (.aload_n 0, 1) := by decide +kernel
theorem dX3_rename_7 : decode cX3_rename 7 = .ok (.iload_n 2, 1) := by decide +kernel
theorem dX3_rename_8 : decode cX3_rename 8 = .ok (.invokevirtual 117, 3) := by decide +kernel
theorem dX3_rename_11 : decode cX3_rename 11 = .ok (.istore 4, 2) := by decide +kernel
theorem dX3_rename_13 : decode cX3_rename 13 = .ok (.iload_n 3, 1) := by decide +kernel
theorem dX3_rename_14 : decode cX3_rename 14 = .ok (.ifCond .lt 8, 3) := by decide +kernel
theorem dX3_rename_17 : decode cX3_rename 17 = .ok (.iload 4, 2) := by decide +kernel
theorem dX3_rename_19 : decode cX3_rename 19 = .ok (.ifCond .ge 17, 3) := by decide +kernel
theorem dX3_rename_22 : decode cX3_rename 22 = .ok (.aload_n 0, 1) := by decide +kernel
theorem dX3_rename_23 : decode cX3_rename 23 = .ok (.getfield 95, 3) := by decide +kernel
theorem dX3_rename_26 : decode cX3_rename 26 = .ok (.ifCond .ne 7, 3) := by decide +kernel
theorem dX3_rename_29 : decode cX3_rename 29 = .ok (.iconst (-1), 1) := by decide +kernel
theorem dX3_rename_30 : decode cX3_rename 30 = .ok (.goto 5, 3) := by decide +kernel
theorem dX3_rename_33 : decode cX3_rename 33 = .ok (.bipush (-2), 2) := by decide +kernel
theorem dX3_rename_35 : decode cX3_rename 35 = .ok (.ireturn, 1) := by decide +kernel
theorem dX3_rename_36 : decode cX3_rename 36 = .ok (.aload_n 0, 1) := by decide +kernel
theorem dX3_rename_37 : decode cX3_rename 37 = .ok (.iload_n 3, 1) := by decide +kernel
theorem dX3_rename_38 : decode cX3_rename 38 = .ok (.invokevirtual 59, 3) := by decide +kernel
theorem dX3_rename_41 : decode cX3_rename 41 = .ok (.aload_n 0, 1) := by decide +kernel
theorem dX3_rename_42 : decode cX3_rename 42 = .ok (.getfield 43, 3) := by decide +kernel
theorem dX3_rename_45 : decode cX3_rename 45 = .ok (.istore 5, 2) := by decide +kernel
theorem dX3_rename_47 : decode cX3_rename 47 = .ok (.iload 5, 2) := by decide +kernel
theorem dX3_rename_49 : decode cX3_rename 49 = .ok (.ifCond .ne 6, 3) := by decide +kernel
theorem dX3_rename_52 : decode cX3_rename 52 = .ok (.bipush (-3), 2) := by decide +kernel
theorem dX3_rename_54 : decode cX3_rename 54 = .ok (.ireturn, 1) := by decide +kernel
theorem dX3_rename_55 : decode cX3_rename 55 = .ok (.iload_n 3, 1) := by decide +kernel
theorem dX3_rename_56 : decode cX3_rename 56 = .ok (.iload 4, 2) := by decide +kernel
theorem dX3_rename_58 : decode cX3_rename 58 = .ok (.if_icmp .ne 5, 3) := by decide +kernel
theorem dX3_rename_61 : decode cX3_rename 61 = .ok (.iconst 0, 1) := by decide +kernel
theorem dX3_rename_62 : decode cX3_rename 62 = .ok (.ireturn, 1) := by decide +kernel
theorem dX3_rename_63 : decode cX3_rename 63 = .ok (.iload 4, 2) := by decide +kernel
theorem dX3_rename_65 : decode cX3_rename 65 = .ok (.iload_n 3, 1) := by decide +kernel
theorem dX3_rename_66 : decode cX3_rename 66 = .ok (.invokestatic 72, 3) := by decide +kernel
theorem dX3_rename_69 : decode cX3_rename 69 = .ok (.ifCond .eq 6, 3) := by decide +kernel
theorem dX3_rename_72 : decode cX3_rename 72 = .ok (.bipush (-9), 2) := by decide +kernel
theorem dX3_rename_74 : decode cX3_rename 74 = .ok (.ireturn, 1) := by decide +kernel
theorem dX3_rename_75 : decode cX3_rename 75 = .ok (.aload_n 0, 1) := by decide +kernel
theorem dX3_rename_76 : decode cX3_rename 76 = .ok (.iload 4, 2) := by decide +kernel
theorem dX3_rename_78 : decode cX3_rename 78 = .ok (.bipush 6, 2) := by decide +kernel
theorem dX3_rename_80 : decode cX3_rename 80 = .ok (.idiv, 1) := by decide +kernel
theorem dX3_rename_81 : decode cX3_rename 81 = .ok (.invokevirtual 120, 3) := by decide +kernel
theorem dX3_rename_84 : decode cX3_rename 84 = .ok (.ifCond .ne 6, 3) := by decide +kernel
theorem dX3_rename_87 : decode cX3_rename 87 = .ok (.bipush (-4), 2) := by decide +kernel
theorem dX3_rename_89 : decode cX3_rename 89 = .ok (.ireturn, 1) := by decide +kernel
theorem dX3_rename_90 : decode cX3_rename 90 = .ok (.aload_n 0, 1) := by decide +kernel
theorem dX3_rename_91 : decode cX3_rename 91 = .ok (.iload 4, 2) := by decide +kernel
theorem dX3_rename_93 : decode cX3_rename 93 = .ok (.invokevirtual 59, 3) := by decide +kernel
theorem dX3_rename_96 : decode cX3_rename 96 = .ok (.aload_n 0, 1) := by decide +kernel
theorem dX3_rename_97 : decode cX3_rename 97 = .ok (.getfield 43, 3) := by decide +kernel
theorem dX3_rename_100 : decode cX3_rename 100 = .ok (.istore 6, 2) := by decide +kernel
theorem dX3_rename_102 : decode cX3_rename 102 = .ok (.iload 6, 2) := by decide +kernel
theorem dX3_rename_104 : decode cX3_rename 104 = .ok (.ifCond .le 24, 3) := by decide +kernel
theorem dX3_rename_107 : decode cX3_rename 107 = .ok (.iload 6, 2) := by decide +kernel
theorem dX3_rename_109 : decode cX3_rename 109 = .ok (.iload 5, 2) := by decide +kernel
theorem dX3_rename_111 : decode cX3_rename 111 = .ok (.if_icmp .eq 17, 3) := by decide +kernel
theorem dX3_rename_114 : decode cX3_rename 114 = .ok (.iload 6, 2) := by decide +kernel
theorem dX3_rename_116 : decode cX3_rename 116 = .ok (.iconst 2, 1) := by decide +kernel
theorem dX3_rename_117 : decode cX3_rename 117 = .ok (.if_icmp .ne 8, 3) := by decide +kernel
theorem dX3_rename_120 : decode cX3_rename 120 = .ok (.bipush (-6), 2) := by decide +kernel
theorem dX3_rename_122 : decode cX3_rename 122 = .ok (.goto 5, 3) := by decide +kernel
theorem dX3_rename_125 : decode cX3_rename 125 = .ok (.bipush (-7), 2) := by decide +kernel
theorem dX3_rename_127 : decode cX3_rename 127 = .ok (.ireturn, 1) := by decide +kernel
theorem dX3_rename_128 : decode cX3_rename 128 = .ok (.iload 6, 2) := by decide +kernel
theorem dX3_rename_130 : decode cX3_rename 130 = .ok (.iconst 2, 1) := by decide +kernel
theorem dX3_rename_131 : decode cX3_rename 131 = .ok (.if_icmp .ne 15, 3) := by decide +kernel
theorem dX3_rename_134 : decode cX3_rename 134 = .ok (.aload_n 0, 1) := by decide +kernel
theorem dX3_rename_135 : decode cX3_rename 135 = .ok (.iload 4, 2) := by decide +kernel
theorem dX3_rename_137 : decode cX3_rename 137 = .ok (.invokevirtual 108, 3) := by decide +kernel
theorem dX3_rename_140 : decode cX3_rename 140 = .ok (.ifCond .le 6, 3) := by decide +kernel
theorem dX3_rename_143 : decode cX3_rename 143 = .ok (.bipush (-8), 2) := by decide +kernel
theorem dX3_rename_145 : decode cX3_rename 145 = .ok (.ireturn, 1) := by decide +kernel
theorem dX3_rename_146 : decode cX3_rename 146 = .ok (.aload_n 0, 1) := by decide +kernel
theorem dX3_rename_147 : decode cX3_rename 147 = .ok (.iload_n 3, 1) := by decide +kernel
theorem dX3_rename_148 : decode cX3_rename 148 = .ok (.invokevirtual 138, 3) := by decide +kernel
theorem dX3_rename_151 : decode cX3_rename 151 = .ok (.istore 7, 2) := by decide +kernel
theorem dX3_rename_153 : decode cX3_rename 153 = .ok (.iload 4, 2) := by decide +kernel
theorem dX3_rename_155 : decode cX3_rename 155 = .ok (.invokestatic 35, 3) := by decide +kernel
theorem dX3_rename_158 : decode cX3_rename 158 = .ok (.iload 7, 2) := by decide +kernel
theorem dX3_rename_160 : decode cX3_rename 160 = .ok (.iadd, 1) := by decide +kernel
theorem dX3_rename_161 : decode cX3_rename 161 = .ok (.iconst 4, 1) := by decide +kernel
theorem dX3_rename_162 : decode cX3_rename 162 = .ok (.if_icmp .le 6, 3) := by decide +kernel
theorem dX3_rename_165 : decode cX3_rename 165 = .ok (.bipush (-10), 2) := by decide +kernel
theorem dX3_rename_167 : decode cX3_rename 167 = .ok (.ireturn, 1) := by decide +kernel
theorem dX3_rename_168 : decode cX3_rename 168 = .ok (.aload_n 0, 1) := by decide +kernel
theorem dX3_rename_169 : decode cX3_rename 169 = .ok (.getfield 69, 3) := by decide +kernel
theorem dX3_rename_172 : decode cX3_rename 172 = .ok (.istore 8, 2) := by decide +kernel
theorem dX3_rename_174 : decode cX3_rename 174 = .ok (.aload_n 0, 1) := by decide +kernel
theorem dX3_rename_175 : decode cX3_rename 175 = .ok (.invokevirtual 123, 3) := by decide +kernel
theorem dX3_rename_178 : decode cX3_rename 178 = .ok (.iconst 0, 1) := by decide +kernel
theorem dX3_rename_179 : decode cX3_rename 179 = .ok (.istore 9, 2) := by decide +kernel
theorem dX3_rename_181 : decode cX3_rename 181 = .ok (.iload 9, 2) := by decide +kernel
theorem dX3_rename_183 : decode cX3_rename 183 = .ok (.aload_n 0, 1) := by decide +kernel
theorem dX3_rename_184 : decode cX3_rename 184 = .ok (.getfield 135, 3) := by decide +kernel
theorem dX3_rename_187 : decode cX3_rename 187 = .ok (.if_icmp .ge 95, 3) := by decide +kernel
theorem dX3_rename_190 : decode cX3_rename 190 = .ok (.aload_n 0, 1) := by decide +kernel
theorem dX3_rename_191 : decode cX3_rename 191 = .ok (.getfield 22, 3) := by decide +kernel
theorem dX3_rename_194 : decode cX3_rename 194 = .ok (.iload 9, 2) := by decide +kernel
theorem dX3_rename_196 : decode cX3_rename 196 = .ok (.iaload, 1) := by decide +kernel
theorem dX3_rename_197 : decode cX3_rename 197 = .ok (.istore 10, 2) := by decide +kernel
theorem dX3_rename_199 : decode cX3_rename 199 = .ok (.iload 4, 2) := by decide +kernel
theorem dX3_rename_201 : decode cX3_rename 201 = .ok (.istore 11, 2) := by decide +kernel
theorem dX3_rename_203 : decode cX3_rename 203 = .ok (.iconst 1, 1) := by decide +kernel
theorem dX3_rename_204 : decode cX3_rename 204 = .ok (.istore 12, 2) := by decide +kernel
theorem dX3_rename_206 : decode cX3_rename 206 = .ok (.aload_n 0, 1) := by decide +kernel
theorem dX3_rename_207 : decode cX3_rename 207 = .ok (.getfield 22, 3) := by decide +kernel
theorem dX3_rename_210 : decode cX3_rename 210 = .ok (.iload 9, 2) := by decide +kernel
theorem dX3_rename_212 : decode cX3_rename 212 = .ok (.iaload, 1) := by decide +kernel
theorem dX3_rename_213 : decode cX3_rename 213 = .ok (.invokestatic 35, 3) := by decide +kernel
theorem dX3_rename_216 : decode cX3_rename 216 = .ok (.iload_n 3, 1) := by decide +kernel
theorem dX3_rename_217 : decode cX3_rename 217 = .ok (.invokestatic 35, 3) := by decide +kernel
theorem dX3_rename_220 : decode cX3_rename 220 = .ok (.isub, 1) := by decide +kernel
theorem dX3_rename_221 : decode cX3_rename 221 = .ok (.istore 13, 2) := by decide +kernel
theorem dX3_rename_223 : decode cX3_rename 223 = .ok (.iload 13, 2) := by decide +kernel
theorem dX3_rename_225 : decode cX3_rename 225 = .ok (.ifCond .le 23, 3) := by decide +kernel
theorem dX3_rename_228 : decode cX3_rename 228 = .ok (.iload 11, 2) := by decide +kernel
theorem dX3_rename_230 : decode cX3_rename 230 = .ok (.bipush 6, 2) := by decide +kernel
theorem dX3_rename_232 : decode cX3_rename 232 = .ok (.imul, 1) := by decide +kernel
theorem dX3_rename_233 : decode cX3_rename 233 = .ok (.istore 11, 2) := by decide +kernel
theorem dX3_rename_235 : decode cX3_rename 235 = .ok (.iload 12, 2) := by decide +kernel
theorem dX3_rename_237 : decode cX3_rename 237 = .ok (.bipush 6, 2) := by decide +kernel
theorem dX3_rename_239 : decode cX3_rename 239 = .ok (.imul, 1) := by decide +kernel
theorem dX3_rename_240 : decode cX3_rename 240 = .ok (.istore 12, 2) := by decide +kernel
theorem dX3_rename_242 : decode cX3_rename 242 = .ok (.iinc 13 (-1), 3) := by decide +kernel
theorem dX3_rename_245 : decode cX3_rename 245 = .ok (.goto (-22), 3) := by decide +kernel
theorem dX3_rename_248 : decode cX3_rename 248 = .ok (.aload_n 0, 1) := by decide +kernel
theorem dX3_rename_249 : decode cX3_rename 249 = .ok (.iload 11, 2) := by decide +kernel
theorem dX3_rename_251 : decode cX3_rename 251 = .ok (.iload 10, 2) := by decide +kernel
theorem dX3_rename_253 : decode cX3_rename 253 = .ok (.iadd, 1) := by decide +kernel
theorem dX3_rename_254 : decode cX3_rename 254 = .ok (.iload_n 3, 1) := by decide +kernel
theorem dX3_rename_255 : decode cX3_rename 255 = .ok (.iload 12, 2) := by decide +kernel
theorem dX3_rename_257 : decode cX3_rename 257 = .ok (.imul, 1) := by decide +kernel
theorem dX3_rename_258 : decode cX3_rename 258 = .ok (.isub, 1) := by decide +kernel
theorem dX3_rename_259 : decode cX3_rename 259 = .ok (.aload_n 0, 1) := by decide +kernel
theorem dX3_rename_260 : decode cX3_rename 260 = .ok (.getfield 25, 3) := by decide +kernel
theorem dX3_rename_263 : decode cX3_rename 263 = .ok (.iload 9, 2) := by decide +kernel
theorem dX3_rename_265 : decode cX3_rename 265 = .ok (.iaload, 1) := by decide +kernel
theorem dX3_rename_266 : decode cX3_rename 266 = .ok (.aload_n 0, 1) := by decide +kernel
theorem dX3_rename_267 : decode cX3_rename 267 = .ok (.getfield 28, 3) := by decide +kernel
theorem dX3_rename_270 : decode cX3_rename 270 = .ok (.iload 9, 2) := by decide +kernel
theorem dX3_rename_272 : decode cX3_rename 272 = .ok (.iaload, 1) := by decide +kernel
theorem dX3_rename_273 : decode cX3_rename 273 = .ok (.invokevirtual 126, 3) := by decide +kernel
theorem dX3_rename_276 : decode cX3_rename 276 = .ok (.iinc 9 1, 3) := by decide +kernel
theorem dX3_rename_279 : decode cX3_rename 279 = .ok (.goto (-98), 3) := by decide +kernel
theorem dX3_rename_282 : decode cX3_rename 282 = .ok (.aload_n 0, 1) := by decide +kernel
theorem dX3_rename_283 : decode cX3_rename 283 = .ok (.iload_n 3, 1) := by decide +kernel
theorem dX3_rename_284 : decode cX3_rename 284 = .ok (.invokevirtual 132, 3) := by decide +kernel
theorem dX3_rename_287 : decode cX3_rename 287 = .ok (.aload_n 0, 1) := by decide +kernel
theorem dX3_rename_288 : decode cX3_rename 288 = .ok (.iload 8, 2) := by decide +kernel
theorem dX3_rename_290 : decode cX3_rename 290 = .ok (.invokevirtual 129, 3) := by decide +kernel
theorem dX3_rename_293 : decode cX3_rename 293 = .ok (.ireturn, 1) := by decide +kernel
end
section
def fp_child (x0 : Int32) (x1 : Int32) : Option (Int32) := some ((x0 * 5) + x1)
def fp_ofPath_53 (x0 : Int32) (k19 : Int32 → Int32 → Option (Int32)) (x1 : Int32) (x2 : Int32) : Option (Int32) := k19 x1 (x2 / 10)
def fp_ofPath_19 (x0 : Int32) : Nat → Int32 → Int32 → Option (Int32)
  | 0 => fun _ _ => none
  | n + 1 => fun x1 x2 => if x2 ≤ 0 then (some x1) else (if x0 < x2 then (fp_ofPath_53 x0 (fp_ofPath_19 x0 n) x1 x2) else (ck_d (x2 = 0) (if ((x0 / x2) - (x0 / x2) / 10 * 10) < 1 then (some (-1)) else (if ((x0 / x2) - (x0 / x2) / 10 * 10) ≤ 5 then ((fp_child x1 ((x0 / x2) - (x0 / x2) / 10 * 10)).bind fun r1 => (fp_ofPath_53 x0 (fp_ofPath_19 x0 n) r1 x2)) else (some (-1))))))
def fp_ofPath (x0 : Int32) : Option (Int32) := if x0 < 0 then (some (-1)) else (if x0 < 10000 then (fp_ofPath_19 x0 fu_n 0 1000) else (some (-1)))
def fx_isLayer (top : Nat) (x1 : Int32) : Option (Int32) := if x1 < 0 then (some 0) else (if (nI top) < x1 then (some 0) else (some 1))
def fy_kindAt (f : Nat → Int32) (x1 : Int32) : Option (Int32) := if x1 < 0 then (some 0) else (if x1 < 781 then (ck_d (x1 < 0 ∨ 781 ≤ x1.toNatClampNeg) (if 0 ≤ (f x1.toNatClampNeg) then (ck_d (x1 < 0 ∨ 781 ≤ x1.toNatClampNeg) (some (f x1.toNatClampNeg))) else (some 1))) else (some 0))
def fp_above (x0 : Int32) (x1 : Int32) : Option (Int32) := ck_d (x1 < 0 ∨ 5 ≤ x1.toNatClampNeg) (ck_d (x1 < 0 ∨ 5 ≤ x1.toNatClampNeg) (ck_d (ft_2 x1.toNatClampNeg = 0) (some ((x0 - (ft_1 x1.toNatClampNeg)) / (ft_2 x1.toNatClampNeg)))))
def fp_parent (x0 : Int32) : Option (Int32) := (fp_above x0 1).bind fun r1 => (some r1)
def fy_canHoldIn (f : Nat → Int32) (x1 : Int32) : Option (Int32) := if x1 = 0 then (some 1) else ((fy_kindAt f x1).bind fun r1 => (if r1 = 2 then (some 1) else ((fy_kindAt f x1).bind fun r3 => (if r3 = 3 then (some 1) else (some 0)))))
def fy_entryCount (fi : Int32) : Option (Int32) := some fi
def fx_hasRoomIn_30 (top : Nat) (c : Nat → ls_T) (x1 : Int32) : Nat → Int32 → Int32 → Option (Int32)
  | 0 => fun _ _ => none
  | n + 1 => fun x2 x3 => if (nI top) ≤ x3 then (if 60 ≤ x2 then (some 0) else (some 1)) else (ck_d (x3 < 0 ∨ top + 1 ≤ x3.toNatClampNeg) ((fy_entryCount ((c x3.toNatClampNeg).2.1)).bind fun r2 => ((fx_hasRoomIn_30 top c x1 n) (x2 + r2) (x3 + 1))))
def fx_hasRoomIn (top : Nat) (c : Nat → ls_T) (x1 : Int32) : Option (Int32) := if x1 = (nI top) then ((fy_entryCount ((c top).2.1)).bind fun r4 => (if 30 ≤ r4 then (some 0) else (some 1))) else (fx_hasRoomIn_30 top c x1 fu_n 0 0)
def fy_set_77 (x1 : Int32) (x2 : Int32) (z0 : Int32) (z1 : Int32) (z2 : Int32) (f : Nat → Int32) (fi : Int32) (wo : Int32) : Option ((Nat → Int32) × Int32 × Int32) := ck_d (x1 < 0 ∨ 781 ≤ x1.toNatClampNeg) (some (upd f x1.toNatClampNeg x2, fi, z2 + (z1 - z0)))
def fy_set_62 (x1 : Int32) (x2 : Int32) (z0 : Int32) (z1 : Int32) (f : Nat → Int32) (fi : Int32) (wo : Int32) : Option ((Nat → Int32) × Int32 × Int32) := ck_d (x1 < 0 ∨ 781 ≤ x1.toNatClampNeg) (if (f x1.toNatClampNeg) = 4 then (fy_set_77 x1 x2 1 z0 z1 f fi wo) else (fy_set_77 x1 x2 0 z0 z1 f fi wo))
def fy_set_42 (x1 : Int32) (x2 : Int32) (z0 : Int32) (z1 : Int32) (z2 : Int32) (f : Nat → Int32) (fi : Int32) (wo : Int32) : Option ((Nat → Int32) × Int32 × Int32) := if x2 = 4 then (fy_set_62 x1 x2 1 wo f (z2 + (z1 - z0)) wo) else (fy_set_62 x1 x2 0 wo f (z2 + (z1 - z0)) wo)
def fy_set_28 (x1 : Int32) (x2 : Int32) (z0 : Int32) (z1 : Int32) (f : Nat → Int32) (fi : Int32) (wo : Int32) : Option ((Nat → Int32) × Int32 × Int32) := ck_d (x1 < 0 ∨ 781 ≤ x1.toNatClampNeg) (if (f x1.toNatClampNeg) = 0 then (fy_set_42 x1 x2 0 z0 z1 f fi wo) else (fy_set_42 x1 x2 1 z0 z1 f fi wo))
def fy_set (f : Nat → Int32) (fi : Int32) (wo : Int32) (x1 : Int32) (x2 : Int32) : Option ((Nat → Int32) × Int32 × Int32) := if x1 ≤ 0 then (some (f, fi, wo)) else (if x1 < 781 then (if x2 = 0 then (fy_set_28 x1 x2 0 fi f fi wo) else (fy_set_28 x1 x2 1 fi f fi wo)) else (some (f, fi, wo)))
def fy_fileCell (x0 : Int32) : Option (Int32) := some (x0 ^^^ (-1))
def fx_put_109 (top : Nat) (md : Int32) (x1 : Int32) (x2 : Int32) (x3 : Int32) (x4 : Int32) (x5 : Int32) (z0 : Int32) (z1 : Int32) (c : Nat → ls_T) : Option (Int32 × (Nat → ls_T)) := (fy_set ((c x1.toNatClampNeg).1) ((c x1.toNatClampNeg).2.1) ((c x1.toNatClampNeg).2.2) z1 z0).bind fun r1 => (some (1, va_up c x1.toNatClampNeg (r1.1, r1.2.1, r1.2.2)))
def fx_put_50 (top : Nat) (md : Int32) (x1 : Int32) (x2 : Int32) (x3 : Int32) (x4 : Int32) (x5 : Int32) (c : Nat → ls_T) : Option (Int32 × (Nat → ls_T)) := ck_d (x1 < 0 ∨ top + 1 ≤ x1.toNatClampNeg) ((fy_kindAt ((c x1.toNatClampNeg).1) x5).bind fun r4 => (if r4 = 0 then ((fp_parent x5).bind fun r6 => ((fy_canHoldIn ((c x1.toNatClampNeg).1) r6).bind fun r8 => (if r8 = 0 then (some (0, c)) else ((fx_hasRoomIn top c x1).bind fun r10 => (if r10 = 0 then (some (0, c)) else (if x3 = 1 then ((fy_fileCell x4).bind fun r12 => (fx_put_109 top md x1 x2 x3 x4 x5 r12 x5 c)) else (fx_put_109 top md x1 x2 x3 x4 x5 x3 x5 c))))))) else (some (0, c))))
def fx_put (top : Nat) (c : Nat → ls_T) (md : Int32) (x1 : Int32) (x2 : Int32) (x3 : Int32) (x4 : Int32) : Option (Int32 × (Nat → ls_T)) := (fp_ofPath x2).bind fun r14 => (if md = 0 then ((fx_isLayer top x1).bind fun r16 => (if r16 = 0 then (some (0, c)) else (if 0 < r14 then (if x3 < 1 then (some (0, c)) else (if 4 < x3 then (some (0, c)) else (if x3 = 1 then (if 0 ≤ x4 then (fx_put_50 top md x1 x2 x3 x4 r14 c) else (some (0, c))) else (fx_put_50 top md x1 x2 x3 x4 r14 c)))) else (some (0, c))))) else (some (0, c)))
def fx_mount (md : Int32) : Option (Int32 × Int32) := if md = 0 then (some (1, 1)) else (some (0, md))
def fx_placeOrRefusal (md : Int32) (x1 : Int32) : Option (Int32) := if md = 0 then (some (-1)) else ((fp_ofPath x1).bind fun r1 => (if r1 = (-1) then (some (-2)) else (some r1)))
def fx_partOf (x0 : Int32) : Option (Int32) := some (1 <<< (x0 &&& 31))
def fx_allParts (top : Nat) : Option (Int32) := (fx_partOf ((nI top) + 1)).bind fun r1 => (some (r1 - 1))
def fp_depth_2 (x0 : Int32) : Nat → Int32 → Option (Int32)
  | 0 => fun _ => none
  | n + 1 => fun x1 => if x1 ≤ 0 then (some x1) else (ck_d (x1 < 0 ∨ 5 ≤ x1.toNatClampNeg) (if (ft_1 x1.toNatClampNeg) ≤ x0 then (some x1) else ((fp_depth_2 x0 n) (x1 + (-1)))))
def fp_depth (x0 : Int32) : Option (Int32) := fp_depth_2 x0 fu_n 4
def fx_isDirectory (x0 : Int32) : Option (Int32) := if x0 ≤ 0 then (some 0) else (some 1)
def fx_isPart (x0 : Int32) (x1 : Int32) : Option (Int32) := if ((x1 >>> (x0 &&& 31)) &&& 1) = 1 then (some 1) else (some 0)
def fx_foundFile (x0 : Int32) : Option (Int32) := some (x0 ^^^ (-1))
def fx_findAmong_91 (top : Nat) (c : Nat → ls_T) (x1 : Int32) (x2 : Int32) (k8 : Int32 → Int32 → Option (Int32)) (x3 : Int32) (x4 : Int32) : Option (Int32) := k8 x3 (x4 + (-1))
def fx_findAmong_8 (top : Nat) (c : Nat → ls_T) (x1 : Int32) (x2 : Int32) : Nat → Int32 → Int32 → Option (Int32)
  | 0 => fun _ _ => none
  | n + 1 => fun x3 x4 => if x4 < 0 then (some x3) else ((fx_isPart x4 x1).bind fun r1 => (if r1 = 0 then (fx_findAmong_91 top c x1 x2 (fx_findAmong_8 top c x1 x2 n) x3 x4) else (ck_d (x4 < 0 ∨ top + 1 ≤ x4.toNatClampNeg) ((fy_kindAt ((c x4.toNatClampNeg).1) x2).bind fun r4 => (if r4 = 1 then (if x3 = 0 then ((fx_foundFile x4).bind fun r10 => (some r10)) else (some x3)) else (if r4 = 4 then (some x3) else (if r4 = 3 then ((fx_partOf x4).bind fun r8 => (some (x3 ||| r8))) else (if r4 = 2 then ((fx_partOf x4).bind fun r6 => (fx_findAmong_91 top c x1 x2 (fx_findAmong_8 top c x1 x2 n) (x3 ||| r6) x4)) else (fx_findAmong_91 top c x1 x2 (fx_findAmong_8 top c x1 x2 n) x3 x4)))))))))
def fx_findAmong (top : Nat) (c : Nat → ls_T) (x1 : Int32) (x2 : Int32) : Option (Int32) := fx_findAmong_8 top c x1 x2 fu_n 0 (nI top)
def fx_find_12 (top : Nat) (c : Nat → ls_T) (x1 : Int32) : Nat → Int32 → Int32 → Option (Int32)
  | 0 => fun _ _ => none
  | n + 1 => fun x2 x3 => if x3 < 0 then (some x2) else ((fx_isDirectory x2).bind fun r1 => (if r1 = 0 then (some 0) else ((fp_above x1 x3).bind fun r3 => ((fx_findAmong top c x2 r3).bind fun r5 => ((fx_find_12 top c x1 n) r5 (x3 + (-1)))))))
def fx_find (top : Nat) (c : Nat → ls_T) (x1 : Int32) : Option (Int32) := (fx_allParts top).bind fun r7 => ((fp_depth x1).bind fun r9 => (fx_find_12 top c x1 fu_n r7 (r9 - 1)))
def fx_isFile (x0 : Int32) : Option (Int32) := if 0 ≤ x0 then (some 0) else (some 1)
def fx_kind (top : Nat) (c : Nat → ls_T) (md : Int32) (x1 : Int32) : Option (Int32) := (fx_placeOrRefusal md x1).bind fun r1 => (if 0 ≤ r1 then ((fx_find top c r1).bind fun r3 => (if r3 = 0 then (some 0) else ((fx_isFile r3).bind fun r5 => (if r5 = 0 then (some 2) else (some 1))))) else (some r1))
def fx_layerOfFile (x0 : Int32) : Option (Int32) := some (x0 ^^^ (-1))
def fy_valueAt (f : Nat → Int32) (x1 : Int32) : Option (Int32) := (fy_kindAt f x1).bind fun r1 => (if r1 = 1 then (ck_d (x1 < 0 ∨ 781 ≤ x1.toNatClampNeg) (some ((f x1.toNatClampNeg) ^^^ (-1)))) else (some 0))
def fx_read (top : Nat) (c : Nat → ls_T) (md : Int32) (x1 : Int32) : Option (Int32) := (fx_placeOrRefusal md x1).bind fun r1 => (if 0 ≤ r1 then ((fx_find top c r1).bind fun r3 => (if r3 = 0 then (some (-3)) else ((fx_isFile r3).bind fun r5 => (if r5 = 0 then (some (-6)) else ((fx_layerOfFile r3).bind fun r7 => (ck_d (r7 < 0 ∨ top + 1 ≤ r7.toNatClampNeg) ((fy_valueAt ((c r7.toNatClampNeg).1) r1).bind fun r10 => (some r10)))))))) else (some r1))
def fx_directoryPlaceOrRefusal (top : Nat) (c : Nat → ls_T) (md : Int32) (x1 : Int32) : Option (Int32) := (fx_placeOrRefusal md x1).bind fun r1 => (if 0 ≤ r1 then ((fx_find top c r1).bind fun r3 => (if r3 = 0 then (some (-3)) else ((fx_isFile r3).bind fun r5 => (if r5 = 0 then (some r1) else (some (-7)))))) else (some r1))
def fx_countIn_28 (top : Nat) (c : Nat → ls_T) (x1 : Int32) (x2 : Int32) (k5 : Int32 → Int32 → Option (Int32)) (x3 : Int32) (x4 : Int32) : Option (Int32) := k5 x3 (x4 + 1)
def fx_countIn_5 (top : Nat) (c : Nat → ls_T) (x1 : Int32) (x2 : Int32) : Nat → Int32 → Int32 → Option (Int32)
  | 0 => fun _ _ => none
  | n + 1 => fun x3 x4 => if 5 < x4 then (some x3) else ((fp_child x1 x4).bind fun r1 => ((fx_findAmong top c x2 r1).bind fun r3 => (if r3 = 0 then (fx_countIn_28 top c x1 x2 (fx_countIn_5 top c x1 x2 n) x3 x4) else (fx_countIn_28 top c x1 x2 (fx_countIn_5 top c x1 x2 n) (x3 + 1) x4))))
def fx_countIn (top : Nat) (c : Nat → ls_T) (x1 : Int32) (x2 : Int32) : Option (Int32) := fx_countIn_5 top c x1 x2 fu_n 0 1
def fx_size (top : Nat) (c : Nat → ls_T) (md : Int32) (x1 : Int32) : Option (Int32) := (fx_directoryPlaceOrRefusal top c md x1).bind fun r1 => (if 0 ≤ r1 then ((fx_find top c r1).bind fun r3 => ((fx_countIn top c r1 r3).bind fun r5 => (some r5))) else (some r1))
def fx_name_58 (top : Nat) (c : Nat → ls_T) (md : Int32) (x1 : Int32) (x2 : Int32) (k25 : Int32 → Int32 → Int32 → Int32 → Option (Int32)) (x3 : Int32) (x4 : Int32) (x5 : Int32) (x6 : Int32) : Option (Int32) := k25 x3 x4 x5 (x6 + 1)
def fx_name_25 (top : Nat) (c : Nat → ls_T) (md : Int32) (x1 : Int32) (x2 : Int32) : Nat → Int32 → Int32 → Int32 → Int32 → Option (Int32)
  | 0 => fun _ _ _ _ => none
  | n + 1 => fun x3 x4 x5 x6 => if 5 < x6 then (some (-3)) else ((fp_child x3 x6).bind fun r1 => ((fx_findAmong top c x4 r1).bind fun r3 => (if r3 = 0 then (fx_name_58 top c md x1 x2 (fx_name_25 top c md x1 x2 n) x3 x4 x5 x6) else (if x5 = x2 then (some x6) else (fx_name_58 top c md x1 x2 (fx_name_25 top c md x1 x2 n) x3 x4 (x5 + 1) x6)))))
def fx_name (top : Nat) (c : Nat → ls_T) (md : Int32) (x1 : Int32) (x2 : Int32) : Option (Int32) := (fx_directoryPlaceOrRefusal top c md x1).bind fun r5 => (if 0 ≤ r5 then ((fx_find top c r5).bind fun r7 => (fx_name_25 top c md x1 x2 fu_n r5 r7 0 1)) else (some r5))
def fx_countBelow_65 (top : Nat) (c : Nat → ls_T) (rc : Int32 → Int32 → Option Int32) (x1 : Int32) (x2 : Int32) (k15 : Int32 → Int32 → Option (Int32)) (x3 : Int32) (x4 : Int32) (x5 : Int32) (x6 : Int32) : Option (Int32) := k15 x3 (x4 + 1)
def fx_countBelow_46 (top : Nat) (c : Nat → ls_T) (rc : Int32 → Int32 → Option Int32) (x1 : Int32) (x2 : Int32) (k15 : Int32 → Int32 → Option (Int32)) (x3 : Int32) (x4 : Int32) (x5 : Int32) (x6 : Int32) : Option (Int32) := (fx_isDirectory x6).bind fun r1 => (if r1 = 0 then (fx_countBelow_65 top c rc x1 x2 k15 x3 x4 x5 x6) else ((rc x5 x6).bind fun r3 => (fx_countBelow_65 top c rc x1 x2 k15 (x3 + r3) x4 x5 x6)))
def fx_countBelow_15 (top : Nat) (c : Nat → ls_T) (rc : Int32 → Int32 → Option Int32) (x1 : Int32) (x2 : Int32) : Nat → Int32 → Int32 → Option (Int32)
  | 0 => fun _ _ => none
  | n + 1 => fun x3 x4 => if 5 < x4 then (some x3) else ((fp_child x1 x4).bind fun r5 => ((fx_findAmong top c x2 r5).bind fun r7 => (if r7 = 0 then (fx_countBelow_46 top c rc x1 x2 (fx_countBelow_15 top c rc x1 x2 n) x3 x4 r5 r7) else (fx_countBelow_46 top c rc x1 x2 (fx_countBelow_15 top c rc x1 x2 n) (x3 + 1) x4 r5 r7))))
def fx_countBelow_B (top : Nat) (c : Nat → ls_T) (rc : Int32 → Int32 → Option Int32) (x1 : Int32) (x2 : Int32) : Option (Int32) := (fp_depth x1).bind fun r9 => (if r9 < 4 then (fx_countBelow_15 top c rc x1 x2 fu_n 0 1) else (some 0))
def fx_countBelow (top : Nat) (c : Nat → ls_T) : Nat → Int32 → Int32 → Option Int32
  | 0 => fun _ _ => none
  | n + 1 => fun x1 x2 => fx_countBelow_B top c (fx_countBelow top c n) x1 x2
def fx_objects (top : Nat) (c : Nat → ls_T) (md : Int32) : Option (Int32) := if md = 0 then (some (-1)) else ((fx_find top c 0).bind fun r1 => ((fx_countBelow top c 6 0 r1).bind fun r3 => (some r3)))
def fx_objectPlaceOrRefusal (md : Int32) (x1 : Int32) : Option (Int32) := (fx_placeOrRefusal md x1).bind fun r1 => (if r1 = 0 then (some (-2)) else (some r1))
def fx_originOf_17 (top : Nat) (x1 : Int32) : Nat → Int32 → Option (Int32)
  | 0 => fun _ => none
  | n + 1 => fun x2 => if x2 ≤ 0 then (some x2) else ((fx_isPart x2 x1).bind fun r1 => (if r1 = 0 then ((fx_originOf_17 top x1 n) (x2 + (-1))) else (some x2)))
def fx_originOf (top : Nat) (x1 : Int32) : Option (Int32) := (fx_isFile x1).bind fun r3 => (if r3 = 0 then (fx_originOf_17 top x1 fu_n (nI top)) else ((fx_layerOfFile x1).bind fun r5 => (some r5)))
def fx_origin (top : Nat) (c : Nat → ls_T) (md : Int32) (x1 : Int32) : Option (Int32) := (fx_objectPlaceOrRefusal md x1).bind fun r1 => (if 0 ≤ r1 then ((fx_find top c r1).bind fun r3 => (if r3 = 0 then (some (-3)) else ((fx_originOf top r3).bind fun r5 => (some r5)))) else (some r1))
def fy_copyFrom (f : Nat → Int32) (fi : Int32) (wo : Int32) (g : Nat → Int32) (gi : Int32) (go : Int32) : Option ((Nat → Int32) × Int32 × Int32) := some (va_cpy g f 0 0 781, gi, go)
def fx_keepUpper (top : Nat) (c : Nat → ls_T) (cu : Int32) (kp : ls_T) (kcu : Int32) : Option (ls_T × Int32) := (fy_copyFrom kp.1 kp.2.1 kp.2.2 ((c top).1) ((c top).2.1) ((c top).2.2)).bind fun r1 => (some ((r1.1, r1.2.1, r1.2.2), cu))
def fx_raise_47 (top : Nat) (x1 : Int32) (k7 : Int32 → (Nat → ls_T) → Int32 → Option ((Nat → ls_T) × Int32)) (x2 : Int32) (x3 : Int32) (c : Nat → ls_T) (cu : Int32) : Option ((Nat → ls_T) × Int32) := k7 (x2 + (-1)) c cu
def fx_raise_7 (top : Nat) (x1 : Int32) : Nat → Int32 → (Nat → ls_T) → Int32 → Option ((Nat → ls_T) × Int32)
  | 0 => fun _ _ _ => none
  | n + 1 => fun x2 c cu => if x2 < 0 then (some (c, cu)) else ((fp_above x1 x2).bind fun r1 => ((fy_kindAt ((c top).1) r1).bind fun r3 => (if r3 = 0 then ((fy_set ((c top).1) ((c top).2.1) ((c top).2.2) r1 2).bind fun r5 => (fx_raise_47 top x1 (fx_raise_7 top x1 n) x2 r1 (va_up c top (r5.1, r5.2.1, r5.2.2)) (cu + 1))) else (fx_raise_47 top x1 (fx_raise_7 top x1 n) x2 r1 c cu))))
def fx_raise (top : Nat) (c : Nat → ls_T) (cu : Int32) (x1 : Int32) : Option ((Nat → ls_T) × Int32) := (fp_depth x1).bind fun r7 => (fx_raise_7 top x1 fu_n (r7 - 1) c cu)
def fy_clearFrom_19 (x1 : Int32) (k10 : Int32 → Int32 → Int32 → (Nat → Int32) → Int32 → Int32 → Option ((Nat → Int32) × Int32 × Int32)) : Nat → Int32 → Int32 → Int32 → Int32 → (Nat → Int32) → Int32 → Int32 → Option ((Nat → Int32) × Int32 × Int32)
  | 0 => fun _ _ _ _ _ _ _ => none
  | n + 1 => fun x2 x3 x4 x5 f fi wo => if x3 < x5 then ((fp_child x2 1).bind fun r1 => ((fp_child x3 5).bind fun r3 => (k10 r1 r3 (x4 + 1) f fi wo))) else ((fy_set f fi wo x5 0).bind fun r5 => ((fy_clearFrom_19 x1 k10 n) x2 x3 x4 (x5 + 1) r5.1 r5.2.1 r5.2.2))
def fy_clearFrom_10 (x1 : Int32) : Nat → Int32 → Int32 → Int32 → (Nat → Int32) → Int32 → Int32 → Option ((Nat → Int32) × Int32 × Int32)
  | 0 => fun _ _ _ _ _ _ => none
  | n + 1 => fun x2 x3 x4 f fi wo => if 4 < x4 then (some (f, fi, wo)) else (fy_clearFrom_19 x1 (fy_clearFrom_10 x1 n) fu_n x2 x3 x4 x2 f fi wo)
def fy_clearFrom (f : Nat → Int32) (fi : Int32) (wo : Int32) (x1 : Int32) : Option ((Nat → Int32) × Int32 × Int32) := (fp_depth x1).bind fun r7 => (fy_clearFrom_10 x1 fu_n x1 x1 r7 f fi wo)
def fx_isCovered (top : Nat) (c : Nat → ls_T) (x1 : Int32) : Option (Int32) := (fp_parent x1).bind fun r1 => ((fx_find top c r1).bind fun r3 => ((fx_isDirectory r3).bind fun r5 => (if r5 = 0 then (some 0) else ((fx_partOf (nI top)).bind fun r7 => ((fx_findAmong top c (r3 &&& (r7 ^^^ (-1))) x1).bind fun r9 => (if r9 = 0 then (some 0) else (some 1)))))))
def fx_makeAt_39 (top : Nat) (x1 : Int32) (x2 : Int32) (z0 : Int32) (z1 : Int32) (c : Nat → ls_T) (cu : Int32) : Option ((Nat → ls_T) × Int32) := (fy_set ((c top).1) ((c top).2.1) ((c top).2.2) z1 z0).bind fun r1 => (some (va_up c top (r1.1, r1.2.1, r1.2.2), cu))
def fx_makeAt_38 (top : Nat) (x1 : Int32) (x2 : Int32) (z0 : Int32) (c : Nat → ls_T) (cu : Int32) : Option ((Nat → ls_T) × Int32) := fx_makeAt_39 top x1 x2 x2 z0 c cu
def fx_makeAt (top : Nat) (c : Nat → ls_T) (cu : Int32) (x1 : Int32) (x2 : Int32) : Option ((Nat → ls_T) × Int32) := (fp_parent x1).bind fun r3 => ((fx_raise top c cu r3).bind fun r5 => ((fy_clearFrom ((r5.1 top).1) ((r5.1 top).2.1) ((r5.1 top).2.2) x1).bind fun r7 => (if x2 = 2 then ((fx_isCovered top (va_up r5.1 top (r7.1, r7.2.1, r7.2.2)) x1).bind fun r9 => (if r9 = 0 then (fx_makeAt_38 top x1 x2 x1 (va_up r5.1 top (r7.1, r7.2.1, r7.2.2)) r5.2) else (fx_makeAt_39 top x1 x2 3 x1 (va_up r5.1 top (r7.1, r7.2.1, r7.2.2)) r5.2))) else (fx_makeAt_38 top x1 x2 x1 (va_up r5.1 top (r7.1, r7.2.1, r7.2.2)) r5.2))))
def fx_settle (top : Nat) (c : Nat → ls_T) (cu : Int32) (kp : ls_T) (kcu : Int32) : Option (Int32 × (Nat → ls_T) × Int32) := (fy_entryCount ((c top).2.1)).bind fun r1 => (if 30 < r1 then ((fy_copyFrom ((c top).1) ((c top).2.1) ((c top).2.2) kp.1 kp.2.1 kp.2.2).bind fun r3 => (some ((-11), va_up c top (r3.1, r3.2.1, r3.2.2), kcu))) else (some (0, c, cu)))
def fx_makeDir (top : Nat) (c : Nat → ls_T) (md : Int32) (cu : Int32) (kp : ls_T) (kcu : Int32) (x1 : Int32) : Option (Int32 × (Nat → ls_T) × Int32 × ls_T × Int32) := (fx_objectPlaceOrRefusal md x1).bind fun r1 => (if 0 ≤ r1 then ((fp_parent r1).bind fun r3 => ((fx_find top c r3).bind fun r5 => ((fx_isDirectory r5).bind fun r7 => (if r7 = 0 then (some ((-4), c, cu, kp, kcu)) else ((fx_find top c r1).bind fun r9 => (if r9 = 0 then ((fx_keepUpper top c cu kp kcu).bind fun r11 => ((fx_makeAt top c cu r1 2).bind fun r13 => ((fx_settle top r13.1 r13.2 r11.1 r11.2).bind fun r15 => (some (r15.1, r15.2.1, r15.2.2, r11.1, r11.2))))) else (some ((-5), c, cu, kp, kcu)))))))) else (some (r1, c, cu, kp, kcu)))
def fx_write_88 (top : Nat) (md : Int32) (x1 : Int32) (x2 : Int32) (x3 : Int32) (x4 : Int32) (c : Nat → ls_T) (cu : Int32) (kp : ls_T) (kcu : Int32) : Option (Int32 × (Nat → ls_T) × Int32 × ls_T × Int32) := (fy_fileCell x2).bind fun r1 => ((fx_makeAt top c cu x3 r1).bind fun r3 => ((fx_settle top r3.1 r3.2 kp kcu).bind fun r5 => (some (r5.1, r5.2.1, r5.2.2, kp, kcu))))
def fx_write (top : Nat) (c : Nat → ls_T) (md : Int32) (cu : Int32) (kp : ls_T) (kcu : Int32) (x1 : Int32) (x2 : Int32) : Option (Int32 × (Nat → ls_T) × Int32 × ls_T × Int32) := (fx_objectPlaceOrRefusal md x1).bind fun r7 => (if 0 ≤ r7 then (if 0 ≤ x2 then ((fp_parent r7).bind fun r9 => ((fx_find top c r9).bind fun r11 => ((fx_isDirectory r11).bind fun r13 => (if r13 = 0 then (some ((-4), c, cu, kp, kcu)) else ((fx_find top c r7).bind fun r15 => ((fx_isDirectory r15).bind fun r17 => (if r17 = 0 then ((fx_keepUpper top c cu kp kcu).bind fun r19 => ((fx_isFile r15).bind fun r21 => (if r21 = 0 then (fx_write_88 top md x1 x2 r7 r15 c cu r19.1 r19.2) else ((fx_layerOfFile r15).bind fun r23 => (if r23 = (nI top) then (fx_write_88 top md x1 x2 r7 r15 c cu r19.1 r19.2) else (fx_write_88 top md x1 x2 r7 r15 c (cu + 1) r19.1 r19.2)))))) else (some ((-6), c, cu, kp, kcu))))))))) else (some ((-2), c, cu, kp, kcu))) else (some (r7, c, cu, kp, kcu)))
def fx_isFilledDirectory (top : Nat) (c : Nat → ls_T) (x1 : Int32) (x2 : Int32) : Option (Int32) := (fx_isDirectory x2).bind fun r1 => (if r1 = 0 then (some 0) else ((fx_countIn top c x1 x2).bind fun r3 => (if r3 ≤ 0 then (some 0) else (some 1))))
def fx_unmakeAt (top : Nat) (c : Nat → ls_T) (cu : Int32) (x1 : Int32) : Option ((Nat → ls_T) × Int32) := (fy_clearFrom ((c top).1) ((c top).2.1) ((c top).2.2) x1).bind fun r1 => ((fx_isCovered top (va_up c top (r1.1, r1.2.1, r1.2.2)) x1).bind fun r3 => (if r3 = 0 then (some (va_up c top (r1.1, r1.2.1, r1.2.2), cu)) else ((fp_parent x1).bind fun r5 => ((fx_raise top (va_up c top (r1.1, r1.2.1, r1.2.2)) cu r5).bind fun r7 => ((fy_set ((r7.1 top).1) ((r7.1 top).2.1) ((r7.1 top).2.2) x1 4).bind fun r9 => (some (va_up r7.1 top (r9.1, r9.2.1, r9.2.2), r7.2)))))))
def fx_remove (top : Nat) (c : Nat → ls_T) (md : Int32) (cu : Int32) (kp : ls_T) (kcu : Int32) (x1 : Int32) : Option (Int32 × (Nat → ls_T) × Int32 × ls_T × Int32) := (fx_objectPlaceOrRefusal md x1).bind fun r1 => (if 0 ≤ r1 then ((fx_find top c r1).bind fun r3 => (if r3 = 0 then (some ((-3), c, cu, kp, kcu)) else ((fx_isFilledDirectory top c r1 r3).bind fun r5 => (if r5 = 0 then ((fx_keepUpper top c cu kp kcu).bind fun r7 => ((fx_unmakeAt top c cu r1).bind fun r9 => ((fx_settle top r9.1 r9.2 r7.1 r7.2).bind fun r11 => (some (r11.1, r11.2.1, r11.2.2, r7.1, r7.2))))) else (some ((-8), c, cu, kp, kcu)))))) else (some (r1, c, cu, kp, kcu)))
def fp_isBelow (x0 : Int32) (x1 : Int32) : Option (Int32) := (fp_depth x0).bind fun r1 => ((fp_depth x1).bind fun r3 => (if (r1 - r3) ≤ 0 then (some 0) else ((fp_above x0 (r1 - r3)).bind fun r5 => (if r5 = x1 then (some 1) else (some 0)))))
def fx_refusalOfTarget_77 (top : Nat) (c : Nat → ls_T) (x1 : Int32) (x2 : Int32) (x3 : Int32) (x4 : Int32) : Option (Int32) := (fx_isFilledDirectory top c x2 x4).bind fun r1 => (if r1 = 0 then (some 0) else (some (-8)))
def fx_refusalOfTarget_59 (top : Nat) (c : Nat → ls_T) (x1 : Int32) (x2 : Int32) (x3 : Int32) (x4 : Int32) : Option (Int32) := (fx_isFile x4).bind fun r3 => (if r3 = 0 then (fx_refusalOfTarget_77 top c x1 x2 x3 x4) else ((fx_isDirectory x3).bind fun r5 => (if r5 = 0 then (fx_refusalOfTarget_77 top c x1 x2 x3 x4) else (some (-7)))))
def fx_refusalOfTarget (top : Nat) (c : Nat → ls_T) (x1 : Int32) (x2 : Int32) : Option (Int32) := (fp_isBelow x2 x1).bind fun r7 => (if r7 = 0 then ((fp_parent x2).bind fun r9 => ((fx_find top c r9).bind fun r11 => ((fx_isDirectory r11).bind fun r13 => (if r13 = 0 then (some (-4)) else ((fx_find top c x1).bind fun r15 => ((fx_find top c x2).bind fun r17 => ((fx_isDirectory r17).bind fun r19 => (if r19 = 0 then (fx_refusalOfTarget_59 top c x1 x2 r15 r17) else ((fx_isFile r15).bind fun r21 => (if r21 = 0 then (fx_refusalOfTarget_59 top c x1 x2 r15 r17) else (some (-6)))))))))))) else (some (-9)))
def fx_cellOfObject (top : Nat) (c : Nat → ls_T) (x1 : Int32) : Option (Int32) := if x1 < 781 then ((fx_find top c x1).bind fun r1 => ((fx_isFile r1).bind fun r3 => (if r3 = 0 then ((fx_isDirectory r1).bind fun r5 => (if r5 = 0 then (some 0) else (some 2))) else ((fx_layerOfFile r1).bind fun r7 => (ck_d (r7 < 0 ∨ top + 1 ≤ r7.toNatClampNeg) ((fy_valueAt ((c r7.toNatClampNeg).1) x1).bind fun r10 => ((fy_fileCell r10).bind fun r12 => (some r12)))))))) else (some 0)
def fp_below (x0 : Int32) (x1 : Int32) : Option (Int32) := (fp_depth x1).bind fun r1 => (ck_d (r1 < 0 ∨ 5 ≤ r1.toNatClampNeg) (some ((x0 * (ft_2 r1.toNatClampNeg)) + x1)))
def fx_noteFrom_63 (top : Nat) (c : Nat → ls_T) (x1 : Int32) (k13 : Int32 → (Nat → Int32) → Option ((Nat → Int32))) (x2 : Int32) (x3 : Int32) (z0 : Int32) (z1 : Int32) (nf : Nat → Int32) : Option ((Nat → Int32)) := ck_d (z1 < 0 ∨ 156 ≤ z1.toNatClampNeg) (k13 (x2 + 1) (upd nf z1.toNatClampNeg z0))
def fx_noteFrom_40 (top : Nat) (c : Nat → ls_T) (x1 : Int32) (k13 : Int32 → (Nat → Int32) → Option ((Nat → Int32))) (x2 : Int32) (z0 : Int32) (nf : Nat → Int32) : Option ((Nat → Int32)) := if z0 = 0 then (fx_noteFrom_63 top c x1 k13 x2 z0 0 x2 nf) else ((fp_below x1 x2).bind fun r1 => ((fx_cellOfObject top c r1).bind fun r3 => (fx_noteFrom_63 top c x1 k13 x2 z0 r3 x2 nf)))
def fx_noteFrom_13 (top : Nat) (c : Nat → ls_T) (x1 : Int32) : Nat → Int32 → (Nat → Int32) → Option ((Nat → Int32))
  | 0 => fun _ _ => none
  | n + 1 => fun x2 nf => if 156 ≤ x2 then (some nf) else ((fp_parent x2).bind fun r5 => (ck_d (r5 < 0 ∨ 156 ≤ r5.toNatClampNeg) (if (nf r5.toNatClampNeg) = 2 then (fx_noteFrom_40 top c x1 (fx_noteFrom_13 top c x1 n) x2 1 nf) else (fx_noteFrom_40 top c x1 (fx_noteFrom_13 top c x1 n) x2 0 nf))))
def fx_noteFrom (top : Nat) (c : Nat → ls_T) (nf : Nat → Int32) (x1 : Int32) : Option ((Nat → Int32)) := (fx_cellOfObject top c x1).bind fun r7 => (ck_d ((0 : Int32) < 0 ∨ 156 ≤ (0 : Int32).toNatClampNeg) (fx_noteFrom_13 top c x1 fu_n 1 (upd nf ((0 : Int32).toNatClampNeg) r7)))
def fx_depthOfNoted_27 (nf : Nat → Int32) (k4 : Int32 → Int32 → Option (Int32)) (x1 : Int32) (x2 : Int32) : Option (Int32) := k4 x1 (x2 + 1)
def fx_depthOfNoted_4 (nf : Nat → Int32) : Nat → Int32 → Int32 → Option (Int32)
  | 0 => fun _ _ => none
  | n + 1 => fun x1 x2 => if 156 ≤ x2 then (some x1) else (ck_d (x2 < 0 ∨ 156 ≤ x2.toNatClampNeg) (if (nf x2.toNatClampNeg) = 0 then (fx_depthOfNoted_27 nf (fx_depthOfNoted_4 nf n) x1 x2) else ((fp_depth x2).bind fun r1 => (fx_depthOfNoted_27 nf (fx_depthOfNoted_4 nf n) r1 x2))))
def fx_depthOfNoted (nf : Nat → Int32) : Option (Int32) := fx_depthOfNoted_4 nf fu_n 0 0
def fx_makeNotedAt_35 (top : Nat) (nf : Nat → Int32) (x1 : Int32) (k2 : Int32 → (Nat → ls_T) → Int32 → Option ((Nat → ls_T) × Int32)) (x2 : Int32) (c : Nat → ls_T) (cu : Int32) : Option ((Nat → ls_T) × Int32) := k2 (x2 + 1) c cu
def fx_makeNotedAt_2 (top : Nat) (nf : Nat → Int32) (x1 : Int32) : Nat → Int32 → (Nat → ls_T) → Int32 → Option ((Nat → ls_T) × Int32)
  | 0 => fun _ _ _ => none
  | n + 1 => fun x2 c cu => if 156 ≤ x2 then (some (c, cu)) else (ck_d (x2 < 0 ∨ 156 ≤ x2.toNatClampNeg) (if (nf x2.toNatClampNeg) = 0 then (fx_makeNotedAt_35 top nf x1 (fx_makeNotedAt_2 top nf x1 n) x2 c cu) else ((fp_below x1 x2).bind fun r1 => (ck_d (x2 < 0 ∨ 156 ≤ x2.toNatClampNeg) ((fx_makeAt top c cu r1 (nf x2.toNatClampNeg)).bind fun r3 => (fx_makeNotedAt_35 top nf x1 (fx_makeNotedAt_2 top nf x1 n) x2 r3.1 r3.2))))))
def fx_makeNotedAt (top : Nat) (c : Nat → ls_T) (cu : Int32) (nf : Nat → Int32) (x1 : Int32) : Option ((Nat → ls_T) × Int32) := fx_makeNotedAt_2 top nf x1 fu_n 0 c cu
def fx_rename (top : Nat) (c : Nat → ls_T) (md : Int32) (cu : Int32) (kp : ls_T) (kcu : Int32) (nf : Nat → Int32) (x1 : Int32) (x2 : Int32) : Option (Int32 × (Nat → ls_T) × Int32 × ls_T × Int32 × (Nat → Int32)) := (fx_objectPlaceOrRefusal md x1).bind fun r1 => ((fx_objectPlaceOrRefusal md x2).bind fun r3 => (if 0 ≤ r1 then (if 0 ≤ r3 then ((fx_find top c r1).bind fun r5 => (if r5 = 0 then (some ((-3), c, cu, kp, kcu, nf)) else (if r1 = r3 then (some (0, c, cu, kp, kcu, nf)) else ((fx_refusalOfTarget top c r1 r3).bind fun r7 => (if r7 = 0 then ((fx_noteFrom top c nf r1).bind fun r9 => ((fp_depth r3).bind fun r11 => ((fx_depthOfNoted r9).bind fun r13 => (if (r11 + r13) ≤ 4 then ((fx_keepUpper top c cu kp kcu).bind fun r15 => ((fx_makeNotedAt top c cu r9 r3).bind fun r17 => ((fx_unmakeAt top r17.1 r17.2 r1).bind fun r19 => ((fx_settle top r19.1 r19.2 r15.1 r15.2).bind fun r21 => (some (r21.1, r21.2.1, r21.2.2, r15.1, r15.2, r9)))))) else (some ((-10), c, cu, kp, kcu, r9)))))) else (some (r7, c, cu, kp, kcu, nf))))))) else (some (r3, c, cu, kp, kcu, nf))) else (some (r1, c, cu, kp, kcu, nf))))
def fx_entry (top : Nat) (c : Nat → ls_T) (x1 : Int32) (x2 : Int32) : Option (Int32) := (fp_ofPath x2).bind fun r1 => ((fx_isLayer top x1).bind fun r3 => (if r3 = 0 then (some (-2)) else (if 0 < r1 then (ck_d (x1 < 0 ∨ top + 1 ≤ x1.toNatClampNeg) ((fy_kindAt ((c x1.toNatClampNeg).1) r1).bind fun r6 => (some r6))) else (some (-2)))))
def fx_entryValue (top : Nat) (c : Nat → ls_T) (x1 : Int32) (x2 : Int32) : Option (Int32) := (fp_ofPath x2).bind fun r1 => ((fx_isLayer top x1).bind fun r3 => (if r3 = 0 then (some (-2)) else (if 0 < r1 then (ck_d (x1 < 0 ∨ top + 1 ≤ x1.toNatClampNeg) ((fy_kindAt ((c x1.toNatClampNeg).1) r1).bind fun r6 => (if r6 = 1 then (ck_d (x1 < 0 ∨ top + 1 ≤ x1.toNatClampNeg) ((fy_valueAt ((c x1.toNatClampNeg).1) r1).bind fun r9 => (some r9))) else (some (-3))))) else (some (-2)))))
def fx_entries (top : Nat) (c : Nat → ls_T) (x1 : Int32) : Option (Int32) := (fx_isLayer top x1).bind fun r1 => (if r1 = 0 then (some (-2)) else (ck_d (x1 < 0 ∨ top + 1 ≤ x1.toNatClampNeg) ((fy_entryCount ((c x1.toNatClampNeg).2.1)).bind fun r4 => (some r4))))
def fy_whiteoutCount (wo : Int32) : Option (Int32) := some wo
def fx_whiteouts (top : Nat) (c : Nat → ls_T) : Option (Int32) := (fy_whiteoutCount ((c top).2.2)).bind fun r1 => (some r1)
def fx_copies (cu : Int32) : Option (Int32) := some cu
end
section
def fm_placeOf_47 (x0 : Int32) (k19 : Int32 → Int32 → Option (Int32)) (x1 : Int32) (x2 : Int32) (x3 : Int32) : Option (Int32) := k19 ((6 * x1) + x3) (x2 / 10)
def fm_placeOf_19 (x0 : Int32) : Nat → Int32 → Int32 → Option (Int32)
  | 0 => fun _ _ => none
  | n + 1 => fun x1 x2 => if x2 ≤ 0 then (some x1) else (ck_d (x2 = 0) (if x0 < x2 then (fm_placeOf_47 x0 (fm_placeOf_19 x0 n) x1 x2 ((x0 / x2) - (x0 / x2) / 10 * 10)) else (if ((x0 / x2) - (x0 / x2) / 10 * 10) < 1 then (some (-1)) else (if ((x0 / x2) - (x0 / x2) / 10 * 10) ≤ 5 then (fm_placeOf_47 x0 (fm_placeOf_19 x0 n) x1 x2 ((x0 / x2) - (x0 / x2) / 10 * 10)) else (some (-1))))))
def fm_placeOf (x0 : Int32) : Option (Int32) := if x0 < 0 then (some (-1)) else (if x0 ≤ 5555 then (fm_placeOf_19 x0 fu_n 0 1000) else (some (-1)))
def fm_depth (x0 : Int32) : Option (Int32) := if x0 = 0 then (some 0) else (if 6 ≤ x0 then (if 36 ≤ x0 then (if 216 ≤ x0 then (some 4) else (some 3)) else (some 2)) else (some 1))
def fm_without_4 (x0 : Int32) (x1 : Int32) : Nat → Int32 → Int32 → Option (Int32)
  | 0 => fun _ _ => none
  | n + 1 => fun x2 x3 => if x1 ≤ x3 then (some x2) else ((fm_without_4 x0 x1 n) (x2 / 6) (x3 + 1))
def fm_without (x0 : Int32) (x1 : Int32) : Option (Int32) := fm_without_4 x0 x1 fu_n x0 0
def fm_isPath_32 (x0 : Int32) (k12 : Int32 → Int32 → Option (Int32)) (x1 : Int32) (x2 : Int32) (z0 : Int32) : Option (Int32) := k12 z0 (x2 / 6)
def fm_isPath_31 (x0 : Int32) (k12 : Int32 → Int32 → Option (Int32)) (x1 : Int32) (x2 : Int32) : Option (Int32) := fm_isPath_32 x0 k12 x1 x2 0
def fm_isPath_12 (x0 : Int32) : Nat → Int32 → Int32 → Option (Int32)
  | 0 => fun _ _ => none
  | n + 1 => fun x1 x2 => if x2 ≤ 0 then (some x1) else (if x1 = 0 then (fm_isPath_31 x0 (fm_isPath_12 x0 n) x1 x2) else (if (x2 - x2 / 6 * 6) ≤ 0 then (fm_isPath_31 x0 (fm_isPath_12 x0 n) x1 x2) else (fm_isPath_32 x0 (fm_isPath_12 x0 n) x1 x2 1)))
def fm_isPath_9 (x0 : Int32) (z0 : Int32) : Option (Int32) := fm_isPath_12 x0 fu_n z0 x0
def fm_isPath (x0 : Int32) : Option (Int32) := if x0 ≤ 0 then (fm_isPath_9 x0 0) else (fm_isPath_9 x0 1)
def fm_isBelow (x0 : Int32) (x1 : Int32) : Option (Int32) := (fm_depth x0).bind fun r1 => ((fm_depth x1).bind fun r3 => (if (r1 - r3) ≤ 0 then (some 0) else ((fm_without x0 (r1 - r3)).bind fun r5 => (if r5 = x1 then (some 1) else (some 0)))))
def fm_resolve_154 (kn : Nat → Int32) (vl : Nat → Int32) (x1 : Int32) (x2 : Int32) (x3 : Int32) (k25 : Int32 → Int32 → Int32 → Int32 → Int32 → Option (Int32 × Int32 × Int32 × Int32)) (x4 : Int32) (x5 : Int32) (fo : Int32) (pa : Int32) (fi : Int32) (va : Int32) : Option (Int32 × Int32 × Int32 × Int32) := if x5 = 1 then (some (fo, pa, fi, va)) else (if x5 ≤ 2 then (k25 (x4 + (-1)) fo pa fi va) else (some (fo, pa, fi, va)))
def fm_resolve_141 (kn : Nat → Int32) (vl : Nat → Int32) (x1 : Int32) (x2 : Int32) (x3 : Int32) (k25 : Int32 → Int32 → Int32 → Int32 → Int32 → Option (Int32 × Int32 × Int32 × Int32)) (x4 : Int32) (x5 : Int32) (fo : Int32) (pa : Int32) (fi : Int32) (va : Int32) : Option (Int32 × Int32 × Int32 × Int32) := fm_resolve_154 kn vl x1 x2 x3 k25 x4 x5 fo (pa ||| (1 <<< (x4 &&& 31))) fi va
def fm_resolve_129 (kn : Nat → Int32) (vl : Nat → Int32) (x1 : Int32) (x2 : Int32) (x3 : Int32) (k25 : Int32 → Int32 → Int32 → Int32 → Int32 → Option (Int32 × Int32 × Int32 × Int32)) (x4 : Int32) (x5 : Int32) (fo : Int32) (pa : Int32) (fi : Int32) (va : Int32) : Option (Int32 × Int32 × Int32 × Int32) := if x5 = 2 then (fm_resolve_141 kn vl x1 x2 x3 k25 x4 x5 fo pa fi va) else (if x5 = 3 then (fm_resolve_141 kn vl x1 x2 x3 k25 x4 x5 fo pa fi va) else (fm_resolve_154 kn vl x1 x2 x3 k25 x4 x5 fo pa fi va))
def fm_resolve_126 (kn : Nat → Int32) (vl : Nat → Int32) (x1 : Int32) (x2 : Int32) (x3 : Int32) (k25 : Int32 → Int32 → Int32 → Int32 → Int32 → Option (Int32 × Int32 × Int32 × Int32)) (x4 : Int32) (x5 : Int32) (z0 : Int32) (fo : Int32) (pa : Int32) (fi : Int32) (va : Int32) : Option (Int32 × Int32 × Int32 × Int32) := fm_resolve_129 kn vl x1 x2 x3 k25 x4 x5 fo pa fi z0
def fm_resolve_99 (kn : Nat → Int32) (vl : Nat → Int32) (x1 : Int32) (x2 : Int32) (x3 : Int32) (k25 : Int32 → Int32 → Int32 → Int32 → Int32 → Option (Int32 × Int32 × Int32 × Int32)) (x4 : Int32) (x5 : Int32) (z0 : Int32) (fo : Int32) (pa : Int32) (fi : Int32) (va : Int32) : Option (Int32 × Int32 × Int32 × Int32) := if x5 = 1 then (ck_d (((1296 * x4) + x1) < 0 ∨ 5184 ≤ ((1296 * x4) + x1).toNatClampNeg) (fm_resolve_126 kn vl x1 x2 x3 k25 x4 x5 (vl ((1296 * x4) + x1).toNatClampNeg) z0 pa fi va)) else (fm_resolve_126 kn vl x1 x2 x3 k25 x4 x5 0 z0 pa fi va)
def fm_resolve_57 (kn : Nat → Int32) (vl : Nat → Int32) (x1 : Int32) (x2 : Int32) (x3 : Int32) (k25 : Int32 → Int32 → Int32 → Int32 → Int32 → Option (Int32 × Int32 × Int32 × Int32)) (x4 : Int32) (z0 : Int32) (fo : Int32) (pa : Int32) (fi : Int32) (va : Int32) : Option (Int32 × Int32 × Int32 × Int32) := if z0 ≤ 0 then (fm_resolve_129 kn vl x1 x2 x3 k25 x4 z0 fo pa fi va) else (if 0 ≤ fi then (fm_resolve_129 kn vl x1 x2 x3 k25 x4 z0 fo pa fi va) else (if z0 = 1 then (fm_resolve_99 kn vl x1 x2 x3 k25 x4 z0 1 fo pa x4 va) else (if z0 = 4 then (fm_resolve_99 kn vl x1 x2 x3 k25 x4 z0 0 fo pa x4 va) else (fm_resolve_99 kn vl x1 x2 x3 k25 x4 z0 2 fo pa x4 va))))
def fm_resolve_25 (kn : Nat → Int32) (vl : Nat → Int32) (x1 : Int32) (x2 : Int32) (x3 : Int32) : Nat → Int32 → Int32 → Int32 → Int32 → Int32 → Option (Int32 × Int32 × Int32 × Int32)
  | 0 => fun _ _ _ _ _ => none
  | n + 1 => fun x4 fo pa fi va => if x4 < 0 then (some (fo, pa, fi, va)) else (if ((x2 >>> (x4 &&& 31)) &&& 1) = 1 then (ck_d (((1296 * x4) + x1) < 0 ∨ 5184 ≤ ((1296 * x4) + x1).toNatClampNeg) (fm_resolve_57 kn vl x1 x2 x3 (fm_resolve_25 kn vl x1 x2 x3 n) x4 (kn ((1296 * x4) + x1).toNatClampNeg) fo pa fi va)) else (fm_resolve_57 kn vl x1 x2 x3 (fm_resolve_25 kn vl x1 x2 x3 n) x4 0 fo pa fi va))
def fm_resolve (kn : Nat → Int32) (vl : Nat → Int32) (fo : Int32) (pa : Int32) (fi : Int32) (va : Int32) (x1 : Int32) (x2 : Int32) (x3 : Int32) : Option (Int32 × Int32 × Int32 × Int32) := fm_resolve_25 kn vl x1 x2 x3 fu_n (x3 - 1) 0 0 (-1) 0
def fm_look_51 (top : Nat) (kn : Nat → Int32) (vl : Nat → Int32) (x1 : Int32) (k31 : Int32 → Int32 → Int32 → Int32 → Int32 → Option (Int32 × Int32 × Int32 × Int32)) (x2 : Int32) (z0 : Int32) (fo : Int32) (pa : Int32) (fi : Int32) (va : Int32) : Option (Int32 × Int32 × Int32 × Int32) := (fm_without x1 x2).bind fun r1 => ((fm_resolve kn vl fo pa fi va r1 z0 ((nI top) + 1)).bind fun r3 => (k31 (x2 + (-1)) r3.1 r3.2.1 r3.2.2.1 r3.2.2.2))
def fm_look_31 (top : Nat) (kn : Nat → Int32) (vl : Nat → Int32) (x1 : Int32) : Nat → Int32 → Int32 → Int32 → Int32 → Int32 → Option (Int32 × Int32 × Int32 × Int32)
  | 0 => fun _ _ _ _ _ => none
  | n + 1 => fun x2 fo pa fi va => if x2 < 0 then (some (fo, pa, fi, va)) else (if fo = 2 then (fm_look_51 top kn vl x1 (fm_look_31 top kn vl x1 n) x2 pa fo pa fi va) else (fm_look_51 top kn vl x1 (fm_look_31 top kn vl x1 n) x2 0 fo pa fi va))
def fm_look (top : Nat) (kn : Nat → Int32) (vl : Nat → Int32) (fo : Int32) (pa : Int32) (fi : Int32) (va : Int32) (x1 : Int32) : Option (Int32 × Int32 × Int32 × Int32) := (fm_depth x1).bind fun r5 => (fm_look_31 top kn vl x1 fu_n (r5 - 1) 2 ((1 <<< (((nI top) + 1) &&& 31)) - 1) (-1) va)
def fm_isCovered_24 (top : Nat) (kn : Nat → Int32) (vl : Nat → Int32) (x1 : Int32) (z0 : Int32) (fo : Int32) (pa : Int32) (fi : Int32) (va : Int32) : Option (Int32 × Int32 × Int32 × Int32 × Int32) := (fm_resolve kn vl fo pa fi va x1 z0 (nI top)).bind fun r1 => (if r1.1 ≤ 0 then (some (0, r1.1, r1.2.1, r1.2.2.1, r1.2.2.2)) else (some (1, r1.1, r1.2.1, r1.2.2.1, r1.2.2.2)))
def fm_isCovered (top : Nat) (kn : Nat → Int32) (vl : Nat → Int32) (fo : Int32) (pa : Int32) (fi : Int32) (va : Int32) (x1 : Int32) : Option (Int32 × Int32 × Int32 × Int32 × Int32) := (fm_look top kn vl fo pa fi va (x1 / 6)).bind fun r3 => (if r3.1 = 2 then (fm_isCovered_24 top kn vl x1 r3.2.1 r3.1 r3.2.1 r3.2.2.1 r3.2.2.2) else (fm_isCovered_24 top kn vl x1 0 r3.1 r3.2.1 r3.2.2.1 r3.2.2.2))
def fm_children_39 (top : Nat) (kn : Nat → Int32) (vl : Nat → Int32) (x1 : Int32) (k4 : Int32 → Int32 → Int32 → Int32 → Int32 → Int32 → Option (Int32 × Int32 × Int32 × Int32 × Int32)) (x2 : Int32) (x3 : Int32) (z0 : Int32) (z1 : Int32) (fo : Int32) (pa : Int32) (fi : Int32) (va : Int32) : Option (Int32 × Int32 × Int32 × Int32 × Int32) := k4 (z1 + z0) (x3 + 1) fo pa fi va
def fm_children_4 (top : Nat) (kn : Nat → Int32) (vl : Nat → Int32) (x1 : Int32) : Nat → Int32 → Int32 → Int32 → Int32 → Int32 → Int32 → Option (Int32 × Int32 × Int32 × Int32 × Int32)
  | 0 => fun _ _ _ _ _ _ => none
  | n + 1 => fun x2 x3 fo pa fi va => if 5 < x3 then (some (x2, fo, pa, fi, va)) else (if 216 ≤ x1 then (some (x2, fo, pa, fi, va)) else ((fm_look top kn vl fo pa fi va ((6 * x1) + x3)).bind fun r1 => (if r1.1 ≤ 0 then (fm_children_39 top kn vl x1 (fm_children_4 top kn vl x1 n) x2 x3 0 x2 r1.1 r1.2.1 r1.2.2.1 r1.2.2.2) else (fm_children_39 top kn vl x1 (fm_children_4 top kn vl x1 n) x2 x3 1 x2 r1.1 r1.2.1 r1.2.2.1 r1.2.2.2))))
def fm_children (top : Nat) (kn : Nat → Int32) (vl : Nat → Int32) (fo : Int32) (pa : Int32) (fi : Int32) (va : Int32) (x1 : Int32) : Option (Int32 × Int32 × Int32 × Int32 × Int32) := fm_children_4 top kn vl x1 fu_n 0 1 fo pa fi va
def fm_upper (top : Nat) (kn : Nat → Int32) (x1 : Int32) : Option (Int32) := ck_d (((1296 * (nI top)) + x1) < 0 ∨ 5184 ≤ ((1296 * (nI top)) + x1).toNatClampNeg) (some (kn ((1296 * (nI top)) + x1).toNatClampNeg))
def fm_set (top : Nat) (kn : Nat → Int32) (vl : Nat → Int32) (x1 : Int32) (x2 : Int32) (x3 : Int32) : Option ((Nat → Int32) × (Nat → Int32)) := ck_d (((1296 * (nI top)) + x1) < 0 ∨ 5184 ≤ ((1296 * (nI top)) + x1).toNatClampNeg) (ck_d (((1296 * (nI top)) + x1) < 0 ∨ 5184 ≤ ((1296 * (nI top)) + x1).toNatClampNeg) (some (upd kn (((1296 * (nI top)) + x1).toNatClampNeg) x2, upd vl (((1296 * (nI top)) + x1).toNatClampNeg) x3)))
def fm_raise_42 (top : Nat) (x1 : Int32) (k7 : Int32 → Int32 → (Nat → Int32) → (Nat → Int32) → Option (Int32 × (Nat → Int32) × (Nat → Int32))) (x2 : Int32) (x3 : Int32) (cu : Int32) (kn : Nat → Int32) (vl : Nat → Int32) : Option (Int32 × (Nat → Int32) × (Nat → Int32)) := k7 (x2 + (-1)) cu kn vl
def fm_raise_7 (top : Nat) (x1 : Int32) : Nat → Int32 → Int32 → (Nat → Int32) → (Nat → Int32) → Option (Int32 × (Nat → Int32) × (Nat → Int32))
  | 0 => fun _ _ _ _ => none
  | n + 1 => fun x2 cu kn vl => if x2 < 0 then (some (cu, kn, vl)) else ((fm_without x1 x2).bind fun r1 => ((fm_upper top kn r1).bind fun r3 => (if r3 = 0 then ((fm_set top kn vl r1 2 0).bind fun r5 => (fm_raise_42 top x1 (fm_raise_7 top x1 n) x2 r1 (cu + 1) r5.1 r5.2)) else (fm_raise_42 top x1 (fm_raise_7 top x1 n) x2 r1 cu kn vl))))
def fm_raise (top : Nat) (cu : Int32) (kn : Nat → Int32) (vl : Nat → Int32) (x1 : Int32) : Option (Int32 × (Nat → Int32) × (Nat → Int32)) := (fm_depth x1).bind fun r7 => (fm_raise_7 top x1 fu_n (r7 - 1) cu kn vl)
def fm_strip_29 (top : Nat) (x1 : Int32) (k2 : Int32 → (Nat → Int32) → (Nat → Int32) → Option ((Nat → Int32) × (Nat → Int32))) (x2 : Int32) (kn : Nat → Int32) (vl : Nat → Int32) : Option ((Nat → Int32) × (Nat → Int32)) := k2 (x2 + 1) kn vl
def fm_strip_22 (top : Nat) (x1 : Int32) (k2 : Int32 → (Nat → Int32) → (Nat → Int32) → Option ((Nat → Int32) × (Nat → Int32))) (x2 : Int32) (kn : Nat → Int32) (vl : Nat → Int32) : Option ((Nat → Int32) × (Nat → Int32)) := (fm_set top kn vl x2 0 0).bind fun r1 => (fm_strip_29 top x1 k2 x2 r1.1 r1.2)
def fm_strip_2 (top : Nat) (x1 : Int32) : Nat → Int32 → (Nat → Int32) → (Nat → Int32) → Option ((Nat → Int32) × (Nat → Int32))
  | 0 => fun _ _ _ => none
  | n + 1 => fun x2 kn vl => if 1296 ≤ x2 then (some (kn, vl)) else (if x2 = x1 then (fm_strip_22 top x1 (fm_strip_2 top x1 n) x2 kn vl) else ((fm_isBelow x2 x1).bind fun r3 => (if r3 = 0 then (fm_strip_29 top x1 (fm_strip_2 top x1 n) x2 kn vl) else (fm_strip_22 top x1 (fm_strip_2 top x1 n) x2 kn vl))))
def fm_strip (top : Nat) (kn : Nat → Int32) (vl : Nat → Int32) (x1 : Int32) : Option ((Nat → Int32) × (Nat → Int32)) := fm_strip_2 top x1 fu_n 1 kn vl
def fm_make_37 (top : Nat) (x1 : Int32) (x2 : Int32) (x3 : Int32) (x4 : Int32) (z0 : Int32) (z1 : Int32) (cu : Int32) (kn : Nat → Int32) (vl : Nat → Int32) (fo : Int32) (pa : Int32) (fi : Int32) (va : Int32) : Option (Int32 × (Nat → Int32) × (Nat → Int32) × Int32 × Int32 × Int32 × Int32) := (fm_set top kn vl z1 z0 x3).bind fun r1 => (some (cu, r1.1, r1.2, fo, pa, fi, va))
def fm_make_36 (top : Nat) (x1 : Int32) (x2 : Int32) (x3 : Int32) (x4 : Int32) (z0 : Int32) (cu : Int32) (kn : Nat → Int32) (vl : Nat → Int32) (fo : Int32) (pa : Int32) (fi : Int32) (va : Int32) : Option (Int32 × (Nat → Int32) × (Nat → Int32) × Int32 × Int32 × Int32 × Int32) := fm_make_37 top x1 x2 x3 x4 x2 z0 cu kn vl fo pa fi va
def fm_make (top : Nat) (cu : Int32) (kn : Nat → Int32) (vl : Nat → Int32) (fo : Int32) (pa : Int32) (fi : Int32) (va : Int32) (x1 : Int32) (x2 : Int32) (x3 : Int32) : Option (Int32 × (Nat → Int32) × (Nat → Int32) × Int32 × Int32 × Int32 × Int32) := (fm_raise top cu kn vl (x1 / 6)).bind fun r3 => ((fm_isCovered top r3.2.1 r3.2.2 fo pa fi va x1).bind fun r5 => ((fm_strip top r3.2.1 r3.2.2 x1).bind fun r7 => (if x2 = 2 then (if r5.1 = 0 then (fm_make_36 top x1 x2 x3 r5.1 x1 r3.1 r7.1 r7.2 r5.2.1 r5.2.2.1 r5.2.2.2.1 r5.2.2.2.2) else (fm_make_37 top x1 x2 x3 r5.1 3 x1 r3.1 r7.1 r7.2 r5.2.1 r5.2.2.1 r5.2.2.2.1 r5.2.2.2.2)) else (fm_make_36 top x1 x2 x3 r5.1 x1 r3.1 r7.1 r7.2 r5.2.1 r5.2.2.1 r5.2.2.2.1 r5.2.2.2.2))))
def fm_unmake (top : Nat) (cu : Int32) (kn : Nat → Int32) (vl : Nat → Int32) (fo : Int32) (pa : Int32) (fi : Int32) (va : Int32) (x1 : Int32) : Option (Int32 × (Nat → Int32) × (Nat → Int32) × Int32 × Int32 × Int32 × Int32) := (fm_strip top kn vl x1).bind fun r1 => ((fm_isCovered top r1.1 r1.2 fo pa fi va x1).bind fun r3 => (if r3.1 = 0 then (some (cu, r1.1, r1.2, r3.2.1, r3.2.2.1, r3.2.2.2.1, r3.2.2.2.2)) else ((fm_raise top cu r1.1 r1.2 (x1 / 6)).bind fun r5 => ((fm_set top r5.2.1 r5.2.2 x1 4 0).bind fun r7 => (some (r5.1, r7.1, r7.2, r3.2.1, r3.2.2.1, r3.2.2.2.1, r3.2.2.2.2))))))
def fm_keep_2 (top : Nat) (kn : Nat → Int32) (vl : Nat → Int32) : Nat → Int32 → (Nat → Int32) → (Nat → Int32) → Option ((Nat → Int32) × (Nat → Int32))
  | 0 => fun _ _ _ => none
  | n + 1 => fun x1 ok ov => if 1296 ≤ x1 then (some (ok, ov)) else ((fm_upper top kn x1).bind fun r1 => (ck_d (x1 < 0 ∨ 1296 ≤ x1.toNatClampNeg) (ck_d (((1296 * (nI top)) + x1) < 0 ∨ 5184 ≤ ((1296 * (nI top)) + x1).toNatClampNeg) (ck_d (x1 < 0 ∨ 1296 ≤ x1.toNatClampNeg) ((fm_keep_2 top kn vl n) (x1 + 1) (upd ok x1.toNatClampNeg r1) (upd ov x1.toNatClampNeg (vl ((1296 * (nI top)) + x1).toNatClampNeg)))))))
def fm_keep (top : Nat) (kn : Nat → Int32) (vl : Nat → Int32) (ok : Nat → Int32) (ov : Nat → Int32) : Option ((Nat → Int32) × (Nat → Int32)) := fm_keep_2 top kn vl fu_n 0 ok ov
def fm_isLayer (top : Nat) (x1 : Int32) : Option (Int32) := if x1 < 0 then (some 0) else (if (nI top) < x1 then (some 0) else (some 1))
def fm_entries_43 (top : Nat) (kn : Nat → Int32) (x1 : Int32) (k15 : Int32 → Int32 → Option (Int32)) (x2 : Int32) (x3 : Int32) (z0 : Int32) (z1 : Int32) : Option (Int32) := k15 (z1 + z0) (x3 + 1)
def fm_entries_15 (top : Nat) (kn : Nat → Int32) (x1 : Int32) : Nat → Int32 → Int32 → Option (Int32)
  | 0 => fun _ _ => none
  | n + 1 => fun x2 x3 => if 1296 ≤ x3 then (some x2) else (ck_d (((1296 * x1) + x3) < 0 ∨ 5184 ≤ ((1296 * x1) + x3).toNatClampNeg) (if (kn ((1296 * x1) + x3).toNatClampNeg) ≤ 0 then (fm_entries_43 top kn x1 (fm_entries_15 top kn x1 n) x2 x3 0 x2) else (fm_entries_43 top kn x1 (fm_entries_15 top kn x1 n) x2 x3 1 x2)))
def fm_entries (top : Nat) (kn : Nat → Int32) (x1 : Int32) : Option (Int32) := (fm_isLayer top x1).bind fun r1 => (if r1 = 0 then (some (-2)) else (fm_entries_15 top kn x1 fu_n 0 1))
def fm_end_17 (top : Nat) (ok : Nat → Int32) (ov : Nat → Int32) (x1 : Int32) : Nat → Int32 → Int32 → (Nat → Int32) → (Nat → Int32) → Option (Int32 × Int32 × (Nat → Int32) × (Nat → Int32))
  | 0 => fun _ _ _ _ => none
  | n + 1 => fun x2 cu kn vl => if 1296 ≤ x2 then (some ((-11), x1, kn, vl)) else (ck_d (x2 < 0 ∨ 1296 ≤ x2.toNatClampNeg) (ck_d (x2 < 0 ∨ 1296 ≤ x2.toNatClampNeg) ((fm_set top kn vl x2 (ok x2.toNatClampNeg) (ov x2.toNatClampNeg)).bind fun r1 => ((fm_end_17 top ok ov x1 n) (x2 + 1) cu r1.1 r1.2))))
def fm_end (top : Nat) (cu : Int32) (kn : Nat → Int32) (vl : Nat → Int32) (ok : Nat → Int32) (ov : Nat → Int32) (x1 : Int32) : Option (Int32 × Int32 × (Nat → Int32) × (Nat → Int32)) := (fm_entries top kn (nI top)).bind fun r3 => (if 30 < r3 then (fm_end_17 top ok ov x1 fu_n 0 cu kn vl) else (some (0, cu, kn, vl)))
def fm_room_4 (top : Nat) (kn : Nat → Int32) (x1 : Int32) : Nat → Int32 → Int32 → Option (Int32)
  | 0 => fun _ _ => none
  | n + 1 => fun x2 x3 => if (nI top) ≤ x3 then (if x1 = (nI top) then ((fm_entries top kn (nI top)).bind fun r1 => (if 30 ≤ r1 then (some 0) else (some 1))) else (if 60 ≤ x2 then (some 0) else (some 1))) else ((fm_entries top kn x3).bind fun r3 => ((fm_room_4 top kn x1 n) (x2 + r3) (x3 + 1)))
def fm_room (top : Nat) (kn : Nat → Int32) (x1 : Int32) : Option (Int32) := fm_room_4 top kn x1 fu_n 0 0
def fm_put_148 (top : Nat) (mt : Int32) (x1 : Int32) (x2 : Int32) (x3 : Int32) (x4 : Int32) (x5 : Int32) (x6 : Int32) (x7 : Int32) (z0 : Int32) (z1 : Int32) (kn : Nat → Int32) (vl : Nat → Int32) : Option (Int32 × (Nat → Int32) × (Nat → Int32)) := ck_d (z1 < 0 ∨ 5184 ≤ z1.toNatClampNeg) (some (1, kn, upd vl z1.toNatClampNeg z0))
def fm_put_107 (top : Nat) (mt : Int32) (x1 : Int32) (x2 : Int32) (x3 : Int32) (x4 : Int32) (x5 : Int32) (x6 : Int32) (x7 : Int32) (kn : Nat → Int32) (vl : Nat → Int32) : Option (Int32 × (Nat → Int32) × (Nat → Int32)) := (fm_room top kn x1).bind fun r1 => (if r1 = 0 then (some (0, kn, vl)) else (ck_d ((x6 + x5) < 0 ∨ 5184 ≤ (x6 + x5).toNatClampNeg) (if x3 = 1 then (fm_put_148 top mt x1 x2 x3 x4 x5 x6 x7 x4 (x6 + x5) (upd kn ((x6 + x5).toNatClampNeg) x3) vl) else (fm_put_148 top mt x1 x2 x3 x4 x5 x6 x7 0 (x6 + x5) (upd kn ((x6 + x5).toNatClampNeg) x3) vl))))
def fm_put_80 (top : Nat) (mt : Int32) (x1 : Int32) (x2 : Int32) (x3 : Int32) (x4 : Int32) (x5 : Int32) (x6 : Int32) (z0 : Int32) (kn : Nat → Int32) (vl : Nat → Int32) : Option (Int32 × (Nat → Int32) × (Nat → Int32)) := ck_d ((x6 + x5) < 0 ∨ 5184 ≤ (x6 + x5).toNatClampNeg) (if 0 < (kn (x6 + x5).toNatClampNeg) then (some (0, kn, vl)) else (if z0 = 2 then (fm_put_107 top mt x1 x2 x3 x4 x5 x6 z0 kn vl) else (if z0 = 3 then (fm_put_107 top mt x1 x2 x3 x4 x5 x6 z0 kn vl) else (some (0, kn, vl)))))
def fm_put_48 (top : Nat) (mt : Int32) (x1 : Int32) (x2 : Int32) (x3 : Int32) (x4 : Int32) (x5 : Int32) (kn : Nat → Int32) (vl : Nat → Int32) : Option (Int32 × (Nat → Int32) × (Nat → Int32)) := if (x5 / 6) = 0 then (fm_put_80 top mt x1 x2 x3 x4 x5 (1296 * x1) 2 kn vl) else (ck_d (((1296 * x1) + (x5 / 6)) < 0 ∨ 5184 ≤ ((1296 * x1) + (x5 / 6)).toNatClampNeg) (fm_put_80 top mt x1 x2 x3 x4 x5 (1296 * x1) (kn ((1296 * x1) + (x5 / 6)).toNatClampNeg) kn vl))
def fm_put (top : Nat) (mt : Int32) (kn : Nat → Int32) (vl : Nat → Int32) (x1 : Int32) (x2 : Int32) (x3 : Int32) (x4 : Int32) : Option (Int32 × (Nat → Int32) × (Nat → Int32)) := (fm_placeOf x2).bind fun r3 => (if mt = 0 then ((fm_isLayer top x1).bind fun r5 => (if r5 = 0 then (some (0, kn, vl)) else (if r3 ≤ 0 then (some (0, kn, vl)) else (if x3 < 1 then (some (0, kn, vl)) else (if 4 < x3 then (some (0, kn, vl)) else (if x3 = 1 then (if 0 ≤ x4 then (fm_put_48 top mt x1 x2 x3 x4 r3 kn vl) else (some (0, kn, vl))) else (fm_put_48 top mt x1 x2 x3 x4 r3 kn vl))))))) else (some (0, kn, vl)))
def fm_mount (mt : Int32) : Option (Int32 × Int32) := if mt = 0 then (some (1, 1)) else (some (0, 1))
def fm_entry (top : Nat) (kn : Nat → Int32) (x1 : Int32) (x2 : Int32) : Option (Int32) := (fm_placeOf x2).bind fun r1 => ((fm_isLayer top x1).bind fun r3 => (if r3 = 0 then (some (-2)) else (if 0 < r1 then (ck_d (((1296 * x1) + r1) < 0 ∨ 5184 ≤ ((1296 * x1) + r1).toNatClampNeg) (some (kn ((1296 * x1) + r1).toNatClampNeg))) else (some (-2)))))
def fm_entryValue (top : Nat) (kn : Nat → Int32) (vl : Nat → Int32) (x1 : Int32) (x2 : Int32) : Option (Int32) := (fm_entry top kn x1 x2).bind fun r1 => (if 0 ≤ r1 then (if r1 = 1 then ((fm_placeOf x2).bind fun r3 => (ck_d (((1296 * x1) + r3) < 0 ∨ 5184 ≤ ((1296 * x1) + r3).toNatClampNeg) (some (vl ((1296 * x1) + r3).toNatClampNeg)))) else (some (-3))) else (some (-2)))
def fm_whiteouts_26 (top : Nat) (kn : Nat → Int32) (k4 : Int32 → Int32 → Option (Int32)) (x1 : Int32) (x2 : Int32) (z0 : Int32) (z1 : Int32) : Option (Int32) := k4 (z1 + z0) (x2 + 1)
def fm_whiteouts_4 (top : Nat) (kn : Nat → Int32) : Nat → Int32 → Int32 → Option (Int32)
  | 0 => fun _ _ => none
  | n + 1 => fun x1 x2 => if 1296 ≤ x2 then (some x1) else ((fm_upper top kn x2).bind fun r1 => (if r1 = 4 then (fm_whiteouts_26 top kn (fm_whiteouts_4 top kn n) x1 x2 1 x1) else (fm_whiteouts_26 top kn (fm_whiteouts_4 top kn n) x1 x2 0 x1)))
def fm_whiteouts (top : Nat) (kn : Nat → Int32) : Option (Int32) := fm_whiteouts_4 top kn fu_n 0 1
def fm_copies (cu : Int32) : Option (Int32) := some cu
def fm_kind_16 (top : Nat) (mt : Int32) (kn : Nat → Int32) (vl : Nat → Int32) (x1 : Int32) (x2 : Int32) (fo : Int32) (pa : Int32) (fi : Int32) (va : Int32) : Option (Int32 × Int32 × Int32 × Int32 × Int32) := if mt = 0 then (some ((-1), fo, pa, fi, va)) else (some ((-2), fo, pa, fi, va))
def fm_kind (top : Nat) (mt : Int32) (kn : Nat → Int32) (vl : Nat → Int32) (fo : Int32) (pa : Int32) (fi : Int32) (va : Int32) (x1 : Int32) : Option (Int32 × Int32 × Int32 × Int32 × Int32) := (fm_placeOf x1).bind fun r1 => (if mt = 0 then (fm_kind_16 top mt kn vl x1 r1 fo pa fi va) else (if 0 ≤ r1 then ((fm_look top kn vl fo pa fi va r1).bind fun r3 => (some (r3.1, r3.1, r3.2.1, r3.2.2.1, r3.2.2.2))) else (fm_kind_16 top mt kn vl x1 r1 fo pa fi va)))
def fm_read (top : Nat) (mt : Int32) (kn : Nat → Int32) (vl : Nat → Int32) (fo : Int32) (pa : Int32) (fi : Int32) (va : Int32) (x1 : Int32) : Option (Int32 × Int32 × Int32 × Int32 × Int32) := (fm_kind top mt kn vl fo pa fi va x1).bind fun r1 => (if 0 ≤ r1.1 then (if r1.1 = 0 then (some ((-3), r1.2.1, r1.2.2.1, r1.2.2.2.1, r1.2.2.2.2)) else (if r1.1 = 2 then (some ((-6), r1.2.1, r1.2.2.1, r1.2.2.2.1, r1.2.2.2.2)) else (some (r1.2.2.2.2, r1.2.1, r1.2.2.1, r1.2.2.2.1, r1.2.2.2.2)))) else (some (r1.1, r1.2.1, r1.2.2.1, r1.2.2.2.1, r1.2.2.2.2)))
def fm_size (top : Nat) (mt : Int32) (kn : Nat → Int32) (vl : Nat → Int32) (fo : Int32) (pa : Int32) (fi : Int32) (va : Int32) (x1 : Int32) : Option (Int32 × Int32 × Int32 × Int32 × Int32) := (fm_kind top mt kn vl fo pa fi va x1).bind fun r1 => (if 2 ≤ r1.1 then ((fm_placeOf x1).bind fun r3 => ((fm_children top kn vl r1.2.1 r1.2.2.1 r1.2.2.2.1 r1.2.2.2.2 r3).bind fun r5 => (some (r5.1, r5.2.1, r5.2.2.1, r5.2.2.2.1, r5.2.2.2.2)))) else (if 0 ≤ r1.1 then (if r1.1 = 0 then (some ((-3), r1.2.1, r1.2.2.1, r1.2.2.2.1, r1.2.2.2.2)) else (some ((-7), r1.2.1, r1.2.2.1, r1.2.2.2.1, r1.2.2.2.2))) else (some (r1.1, r1.2.1, r1.2.2.1, r1.2.2.2.1, r1.2.2.2.2))))
def fm_name_80 (top : Nat) (mt : Int32) (kn : Nat → Int32) (vl : Nat → Int32) (x1 : Int32) (x2 : Int32) (k24 : Int32 → Int32 → Int32 → Int32 → Int32 → Int32 → Int32 → Int32 → Option (Int32 × Int32 × Int32 × Int32 × Int32)) (x3 : Int32) (x4 : Int32) (x5 : Int32) (x6 : Int32) (z0 : Int32) (z1 : Int32) (fo : Int32) (pa : Int32) (fi : Int32) (va : Int32) : Option (Int32 × Int32 × Int32 × Int32 × Int32) := k24 x3 x4 (z1 - z0) (x6 + 1) fo pa fi va
def fm_name_66 (top : Nat) (mt : Int32) (kn : Nat → Int32) (vl : Nat → Int32) (x1 : Int32) (x2 : Int32) (k24 : Int32 → Int32 → Int32 → Int32 → Int32 → Int32 → Int32 → Int32 → Option (Int32 × Int32 × Int32 × Int32 × Int32)) (x3 : Int32) (x4 : Int32) (x5 : Int32) (x6 : Int32) (fo : Int32) (pa : Int32) (fi : Int32) (va : Int32) : Option (Int32 × Int32 × Int32 × Int32 × Int32) := if fo ≤ 0 then (fm_name_80 top mt kn vl x1 x2 k24 x3 x4 x5 x6 0 x5 fo pa fi va) else (fm_name_80 top mt kn vl x1 x2 k24 x3 x4 x5 x6 1 x5 fo pa fi va)
def fm_name_24 (top : Nat) (mt : Int32) (kn : Nat → Int32) (vl : Nat → Int32) (x1 : Int32) (x2 : Int32) : Nat → Int32 → Int32 → Int32 → Int32 → Int32 → Int32 → Int32 → Int32 → Option (Int32 × Int32 × Int32 × Int32 × Int32)
  | 0 => fun _ _ _ _ _ _ _ _ => none
  | n + 1 => fun x3 x4 x5 x6 fo pa fi va => if 5 < x6 then (some ((-3), fo, pa, fi, va)) else (if x2 < 0 then (some ((-3), fo, pa, fi, va)) else (if x3 ≤ x2 then (some ((-3), fo, pa, fi, va)) else ((fm_look top kn vl fo pa fi va ((6 * x4) + x6)).bind fun r1 => (if r1.1 ≤ 0 then (fm_name_66 top mt kn vl x1 x2 (fm_name_24 top mt kn vl x1 x2 n) x3 x4 x5 x6 r1.1 r1.2.1 r1.2.2.1 r1.2.2.2) else (if x5 = 0 then (some (x6, r1.1, r1.2.1, r1.2.2.1, r1.2.2.2)) else (fm_name_66 top mt kn vl x1 x2 (fm_name_24 top mt kn vl x1 x2 n) x3 x4 x5 x6 r1.1 r1.2.1 r1.2.2.1 r1.2.2.2))))))
def fm_name (top : Nat) (mt : Int32) (kn : Nat → Int32) (vl : Nat → Int32) (fo : Int32) (pa : Int32) (fi : Int32) (va : Int32) (x1 : Int32) (x2 : Int32) : Option (Int32 × Int32 × Int32 × Int32 × Int32) := (fm_size top mt kn vl fo pa fi va x1).bind fun r3 => (if 0 ≤ r3.1 then ((fm_placeOf x1).bind fun r5 => (fm_name_24 top mt kn vl x1 x2 fu_n r3.1 r5 x2 1 r3.2.1 r3.2.2.1 r3.2.2.2.1 r3.2.2.2.2)) else (some (r3.1, r3.2.1, r3.2.2.1, r3.2.2.2.1, r3.2.2.2.2)))
def fm_objects_51 (top : Nat) (mt : Int32) (kn : Nat → Int32) (vl : Nat → Int32) (k13 : Int32 → Int32 → Int32 → Int32 → Int32 → Int32 → Option (Int32 × Int32 × Int32 × Int32 × Int32)) (x1 : Int32) (x2 : Int32) (x3 : Int32) (z0 : Int32) (z1 : Int32) (fo : Int32) (pa : Int32) (fi : Int32) (va : Int32) : Option (Int32 × Int32 × Int32 × Int32 × Int32) := k13 (z1 + z0) (x2 + 1) fo pa fi va
def fm_objects_50 (top : Nat) (mt : Int32) (kn : Nat → Int32) (vl : Nat → Int32) (k13 : Int32 → Int32 → Int32 → Int32 → Int32 → Int32 → Option (Int32 × Int32 × Int32 × Int32 × Int32)) (x1 : Int32) (x2 : Int32) (x3 : Int32) (z0 : Int32) (fo : Int32) (pa : Int32) (fi : Int32) (va : Int32) : Option (Int32 × Int32 × Int32 × Int32 × Int32) := fm_objects_51 top mt kn vl k13 x1 x2 x3 0 z0 fo pa fi va
def fm_objects_34 (top : Nat) (mt : Int32) (kn : Nat → Int32) (vl : Nat → Int32) (k13 : Int32 → Int32 → Int32 → Int32 → Int32 → Int32 → Option (Int32 × Int32 × Int32 × Int32 × Int32)) (x1 : Int32) (x2 : Int32) (x3 : Int32) (fo : Int32) (pa : Int32) (fi : Int32) (va : Int32) : Option (Int32 × Int32 × Int32 × Int32 × Int32) := if x3 = 0 then (fm_objects_50 top mt kn vl k13 x1 x2 x3 x1 fo pa fi va) else (if fo ≤ 0 then (fm_objects_50 top mt kn vl k13 x1 x2 x3 x1 fo pa fi va) else (fm_objects_51 top mt kn vl k13 x1 x2 x3 1 x1 fo pa fi va))
def fm_objects_13 (top : Nat) (mt : Int32) (kn : Nat → Int32) (vl : Nat → Int32) : Nat → Int32 → Int32 → Int32 → Int32 → Int32 → Int32 → Option (Int32 × Int32 × Int32 × Int32 × Int32)
  | 0 => fun _ _ _ _ _ _ => none
  | n + 1 => fun x1 x2 fo pa fi va => if 1296 ≤ x2 then (some (x1, fo, pa, fi, va)) else ((fm_isPath x2).bind fun r1 => (if r1 = 0 then (fm_objects_34 top mt kn vl (fm_objects_13 top mt kn vl n) x1 x2 r1 fo pa fi va) else ((fm_look top kn vl fo pa fi va x2).bind fun r3 => (fm_objects_34 top mt kn vl (fm_objects_13 top mt kn vl n) x1 x2 r1 r3.1 r3.2.1 r3.2.2.1 r3.2.2.2))))
def fm_objects (top : Nat) (mt : Int32) (kn : Nat → Int32) (vl : Nat → Int32) (fo : Int32) (pa : Int32) (fi : Int32) (va : Int32) : Option (Int32 × Int32 × Int32 × Int32 × Int32) := if mt = 0 then (some ((-1), fo, pa, fi, va)) else (fm_objects_13 top mt kn vl fu_n 0 1 fo pa fi va)
def fm_origin (top : Nat) (mt : Int32) (kn : Nat → Int32) (vl : Nat → Int32) (fo : Int32) (pa : Int32) (fi : Int32) (va : Int32) (x1 : Int32) : Option (Int32 × Int32 × Int32 × Int32 × Int32) := (fm_kind top mt kn vl fo pa fi va x1).bind fun r1 => (if 0 ≤ r1.1 then (if x1 = 0 then (some ((-2), r1.2.1, r1.2.2.1, r1.2.2.2.1, r1.2.2.2.2)) else (if r1.1 = 0 then (some ((-3), r1.2.1, r1.2.2.1, r1.2.2.2.1, r1.2.2.2.2)) else (some (r1.2.2.2.1, r1.2.1, r1.2.2.1, r1.2.2.2.1, r1.2.2.2.2)))) else (some (r1.1, r1.2.1, r1.2.2.1, r1.2.2.2.1, r1.2.2.2.2)))
def fm_target (mt : Int32) (x1 : Int32) : Option (Int32) := (fm_placeOf x1).bind fun r1 => (if mt = 0 then (some (-1)) else (if 0 < r1 then (some r1) else (some (-2))))
def fm_isDirectory (top : Nat) (kn : Nat → Int32) (vl : Nat → Int32) (fo : Int32) (pa : Int32) (fi : Int32) (va : Int32) (x1 : Int32) : Option (Int32 × Int32 × Int32 × Int32 × Int32) := (fm_look top kn vl fo pa fi va x1).bind fun r1 => (if r1.1 = 2 then (some (1, r1.1, r1.2.1, r1.2.2.1, r1.2.2.2)) else (some (0, r1.1, r1.2.1, r1.2.2.1, r1.2.2.2)))
def fm_makeDir (top : Nat) (mt : Int32) (cu : Int32) (kn : Nat → Int32) (vl : Nat → Int32) (ok : Nat → Int32) (ov : Nat → Int32) (fo : Int32) (pa : Int32) (fi : Int32) (va : Int32) (x1 : Int32) : Option (Int32 × Int32 × (Nat → Int32) × (Nat → Int32) × (Nat → Int32) × (Nat → Int32) × Int32 × Int32 × Int32 × Int32) := (fm_target mt x1).bind fun r1 => (if 0 ≤ r1 then ((fm_isDirectory top kn vl fo pa fi va (r1 / 6)).bind fun r3 => (if r3.1 = 0 then (some ((-4), cu, kn, vl, ok, ov, r3.2.1, r3.2.2.1, r3.2.2.2.1, r3.2.2.2.2)) else ((fm_look top kn vl r3.2.1 r3.2.2.1 r3.2.2.2.1 r3.2.2.2.2 r1).bind fun r5 => (if r5.1 ≤ 0 then ((fm_keep top kn vl ok ov).bind fun r7 => ((fm_make top cu kn vl r5.1 r5.2.1 r5.2.2.1 r5.2.2.2 r1 2 0).bind fun r9 => ((fm_end top r9.1 r9.2.1 r9.2.2.1 r7.1 r7.2 cu).bind fun r11 => (some (r11.1, r11.2.1, r11.2.2.1, r11.2.2.2, r7.1, r7.2, r9.2.2.2.1, r9.2.2.2.2.1, r9.2.2.2.2.2.1, r9.2.2.2.2.2.2))))) else (some ((-5), cu, kn, vl, ok, ov, r5.1, r5.2.1, r5.2.2.1, r5.2.2.2)))))) else (some (r1, cu, kn, vl, ok, ov, fo, pa, fi, va)))
def fm_write_21 (top : Nat) (mt : Int32) (x1 : Int32) (x2 : Int32) (x3 : Int32) (cu : Int32) (kn : Nat → Int32) (vl : Nat → Int32) (ok : Nat → Int32) (ov : Nat → Int32) (fo : Int32) (pa : Int32) (fi : Int32) (va : Int32) : Option (Int32 × Int32 × (Nat → Int32) × (Nat → Int32) × (Nat → Int32) × (Nat → Int32) × Int32 × Int32 × Int32 × Int32) := if x3 = (-1) then (some ((-1), cu, kn, vl, ok, ov, fo, pa, fi, va)) else (some ((-2), cu, kn, vl, ok, ov, fo, pa, fi, va))
def fm_write_121 (top : Nat) (mt : Int32) (x1 : Int32) (x2 : Int32) (x3 : Int32) (x4 : Int32) (x5 : Int32) (z0 : Int32) (z1 : Int32) (cu : Int32) (kn : Nat → Int32) (vl : Nat → Int32) (ok : Nat → Int32) (ov : Nat → Int32) (fo : Int32) (pa : Int32) (fi : Int32) (va : Int32) : Option (Int32 × Int32 × (Nat → Int32) × (Nat → Int32) × (Nat → Int32) × (Nat → Int32) × Int32 × Int32 × Int32 × Int32) := (fm_end top (z1 + z0) kn vl ok ov x4).bind fun r1 => (some (r1.1, r1.2.1, r1.2.2.1, r1.2.2.2, ok, ov, fo, pa, fi, va))
def fm_write_93 (top : Nat) (mt : Int32) (x1 : Int32) (x2 : Int32) (x3 : Int32) (x4 : Int32) (z0 : Int32) (cu : Int32) (kn : Nat → Int32) (vl : Nat → Int32) (ok : Nat → Int32) (ov : Nat → Int32) (fo : Int32) (pa : Int32) (fi : Int32) (va : Int32) : Option (Int32 × Int32 × (Nat → Int32) × (Nat → Int32) × (Nat → Int32) × (Nat → Int32) × Int32 × Int32 × Int32 × Int32) := (fm_keep top kn vl ok ov).bind fun r3 => ((fm_make top cu kn vl fo pa fi va x3 1 x2).bind fun r5 => (if z0 = 0 then (fm_write_121 top mt x1 x2 x3 x4 z0 0 r5.1 r5.1 r5.2.1 r5.2.2.1 r3.1 r3.2 r5.2.2.2.1 r5.2.2.2.2.1 r5.2.2.2.2.2.1 r5.2.2.2.2.2.2) else (fm_write_121 top mt x1 x2 x3 x4 z0 1 r5.1 r5.1 r5.2.1 r5.2.2.1 r3.1 r3.2 r5.2.2.2.1 r5.2.2.2.2.1 r5.2.2.2.2.2.1 r5.2.2.2.2.2.2)))
def fm_write_92 (top : Nat) (mt : Int32) (x1 : Int32) (x2 : Int32) (x3 : Int32) (x4 : Int32) (cu : Int32) (kn : Nat → Int32) (vl : Nat → Int32) (ok : Nat → Int32) (ov : Nat → Int32) (fo : Int32) (pa : Int32) (fi : Int32) (va : Int32) : Option (Int32 × Int32 × (Nat → Int32) × (Nat → Int32) × (Nat → Int32) × (Nat → Int32) × Int32 × Int32 × Int32 × Int32) := fm_write_93 top mt x1 x2 x3 x4 0 cu kn vl ok ov fo pa fi va
def fm_write (top : Nat) (mt : Int32) (cu : Int32) (kn : Nat → Int32) (vl : Nat → Int32) (ok : Nat → Int32) (ov : Nat → Int32) (fo : Int32) (pa : Int32) (fi : Int32) (va : Int32) (x1 : Int32) (x2 : Int32) : Option (Int32 × Int32 × (Nat → Int32) × (Nat → Int32) × (Nat → Int32) × (Nat → Int32) × Int32 × Int32 × Int32 × Int32) := (fm_target mt x1).bind fun r7 => (if r7 = (-1) then (fm_write_21 top mt x1 x2 r7 cu kn vl ok ov fo pa fi va) else (if r7 = (-2) then (fm_write_21 top mt x1 x2 r7 cu kn vl ok ov fo pa fi va) else (if 0 ≤ x2 then ((fm_isDirectory top kn vl fo pa fi va (r7 / 6)).bind fun r9 => (if r9.1 = 0 then (some ((-4), cu, kn, vl, ok, ov, r9.2.1, r9.2.2.1, r9.2.2.2.1, r9.2.2.2.2)) else ((fm_look top kn vl r9.2.1 r9.2.2.1 r9.2.2.2.1 r9.2.2.2.2 r7).bind fun r11 => (if r11.1 = 2 then (some ((-6), cu, kn, vl, ok, ov, r11.1, r11.2.1, r11.2.2.1, r11.2.2.2)) else (if r11.1 = 1 then (if (nI top) ≤ r11.2.2.1 then (fm_write_92 top mt x1 x2 r7 cu cu kn vl ok ov r11.1 r11.2.1 r11.2.2.1 r11.2.2.2) else (fm_write_93 top mt x1 x2 r7 cu 1 cu kn vl ok ov r11.1 r11.2.1 r11.2.2.1 r11.2.2.2)) else (fm_write_92 top mt x1 x2 r7 cu cu kn vl ok ov r11.1 r11.2.1 r11.2.2.1 r11.2.2.2)))))) else (fm_write_21 top mt x1 x2 r7 cu kn vl ok ov fo pa fi va))))
def fm_remove_46 (top : Nat) (mt : Int32) (x1 : Int32) (x2 : Int32) (cu : Int32) (kn : Nat → Int32) (vl : Nat → Int32) (ok : Nat → Int32) (ov : Nat → Int32) (fo : Int32) (pa : Int32) (fi : Int32) (va : Int32) : Option (Int32 × Int32 × (Nat → Int32) × (Nat → Int32) × (Nat → Int32) × (Nat → Int32) × Int32 × Int32 × Int32 × Int32) := (fm_keep top kn vl ok ov).bind fun r1 => ((fm_unmake top cu kn vl fo pa fi va x2).bind fun r3 => ((fm_end top r3.1 r3.2.1 r3.2.2.1 r1.1 r1.2 cu).bind fun r5 => (some (r5.1, r5.2.1, r5.2.2.1, r5.2.2.2, r1.1, r1.2, r3.2.2.2.1, r3.2.2.2.2.1, r3.2.2.2.2.2.1, r3.2.2.2.2.2.2))))
def fm_remove (top : Nat) (mt : Int32) (cu : Int32) (kn : Nat → Int32) (vl : Nat → Int32) (ok : Nat → Int32) (ov : Nat → Int32) (fo : Int32) (pa : Int32) (fi : Int32) (va : Int32) (x1 : Int32) : Option (Int32 × Int32 × (Nat → Int32) × (Nat → Int32) × (Nat → Int32) × (Nat → Int32) × Int32 × Int32 × Int32 × Int32) := (fm_target mt x1).bind fun r7 => (if 0 ≤ r7 then ((fm_look top kn vl fo pa fi va r7).bind fun r9 => (if r9.1 = 0 then (some ((-3), cu, kn, vl, ok, ov, r9.1, r9.2.1, r9.2.2.1, r9.2.2.2)) else (if r9.1 = 2 then ((fm_children top kn vl r9.1 r9.2.1 r9.2.2.1 r9.2.2.2 r7).bind fun r11 => (if r11.1 ≤ 0 then (fm_remove_46 top mt x1 r7 cu kn vl ok ov r11.2.1 r11.2.2.1 r11.2.2.2.1 r11.2.2.2.2) else (some ((-8), cu, kn, vl, ok, ov, r11.2.1, r11.2.2.1, r11.2.2.2.1, r11.2.2.2.2)))) else (fm_remove_46 top mt x1 r7 cu kn vl ok ov r9.1 r9.2.1 r9.2.2.1 r9.2.2.2)))) else (some (r7, cu, kn, vl, ok, ov, fo, pa, fi, va)))
def fm_note_135 (top : Nat) (kn : Nat → Int32) (vl : Nat → Int32) (x1 : Int32) (k9 : Int32 → Int32 → Int32 → Int32 → Int32 → Int32 → (Nat → Int32) → (Nat → Int32) → (Nat → Int32) → Int32 → Option (Int32 × Int32 × Int32 × Int32 × Int32 × (Nat → Int32) × (Nat → Int32) × (Nat → Int32) × Int32)) (x2 : Int32) (x3 : Int32) (x4 : Int32) (fo : Int32) (pa : Int32) (fi : Int32) (va : Int32) (nd : Nat → Int32) (nk : Nat → Int32) (nv : Nat → Int32) (no : Int32) : Option (Int32 × Int32 × Int32 × Int32 × Int32 × (Nat → Int32) × (Nat → Int32) × (Nat → Int32) × Int32) := k9 x2 (x3 + 1) fo pa fi va nd nk nv no
def fm_note_134 (top : Nat) (kn : Nat → Int32) (vl : Nat → Int32) (x1 : Int32) (k9 : Int32 → Int32 → Int32 → Int32 → Int32 → Int32 → (Nat → Int32) → (Nat → Int32) → (Nat → Int32) → Int32 → Option (Int32 × Int32 × Int32 × Int32 × Int32 × (Nat → Int32) × (Nat → Int32) × (Nat → Int32) × Int32)) (x2 : Int32) (x3 : Int32) (x4 : Int32) (x5 : Int32) (z0 : Int32) (fo : Int32) (pa : Int32) (fi : Int32) (va : Int32) (nd : Nat → Int32) (nk : Nat → Int32) (nv : Nat → Int32) (no : Int32) : Option (Int32 × Int32 × Int32 × Int32 × Int32 × (Nat → Int32) × (Nat → Int32) × (Nat → Int32) × Int32) := fm_note_135 top kn vl x1 k9 z0 x3 x4 fo pa fi va nd nk nv no
def fm_note_53 (top : Nat) (kn : Nat → Int32) (vl : Nat → Int32) (x1 : Int32) (k9 : Int32 → Int32 → Int32 → Int32 → Int32 → Int32 → (Nat → Int32) → (Nat → Int32) → (Nat → Int32) → Int32 → Option (Int32 × Int32 × Int32 × Int32 × Int32 × (Nat → Int32) × (Nat → Int32) × (Nat → Int32) × Int32)) (x2 : Int32) (x3 : Int32) (x4 : Int32) (fo : Int32) (pa : Int32) (fi : Int32) (va : Int32) (nd : Nat → Int32) (nk : Nat → Int32) (nv : Nat → Int32) (no : Int32) : Option (Int32 × Int32 × Int32 × Int32 × Int32 × (Nat → Int32) × (Nat → Int32) × (Nat → Int32) × Int32) := if x4 = 0 then (fm_note_135 top kn vl x1 k9 x2 x3 x4 fo pa fi va nd nk nv no) else (if fo ≤ 0 then (fm_note_135 top kn vl x1 k9 x2 x3 x4 fo pa fi va nd nk nv no) else (ck_d (no < 0 ∨ 96 ≤ no.toNatClampNeg) (ck_d (no < 0 ∨ 96 ≤ no.toNatClampNeg) (ck_d (no < 0 ∨ 96 ≤ no.toNatClampNeg) ((fm_depth x3).bind fun r1 => ((fm_depth x1).bind fun r3 => (if (r1 - r3) ≤ x2 then (fm_note_134 top kn vl x1 k9 x2 x3 x4 (r1 - r3) x2 fo pa fi va (upd nd no.toNatClampNeg x3) (upd nk no.toNatClampNeg fo) (upd nv no.toNatClampNeg va) (no + 1)) else (fm_note_134 top kn vl x1 k9 x2 x3 x4 (r1 - r3) (r1 - r3) fo pa fi va (upd nd no.toNatClampNeg x3) (upd nk no.toNatClampNeg fo) (upd nv no.toNatClampNeg va) (no + 1)))))))))
def fm_note_41 (top : Nat) (kn : Nat → Int32) (vl : Nat → Int32) (x1 : Int32) (k9 : Int32 → Int32 → Int32 → Int32 → Int32 → Int32 → (Nat → Int32) → (Nat → Int32) → (Nat → Int32) → Int32 → Option (Int32 × Int32 × Int32 × Int32 × Int32 × (Nat → Int32) × (Nat → Int32) × (Nat → Int32) × Int32)) (x2 : Int32) (x3 : Int32) (z0 : Int32) (fo : Int32) (pa : Int32) (fi : Int32) (va : Int32) (nd : Nat → Int32) (nk : Nat → Int32) (nv : Nat → Int32) (no : Int32) : Option (Int32 × Int32 × Int32 × Int32 × Int32 × (Nat → Int32) × (Nat → Int32) × (Nat → Int32) × Int32) := if z0 = 0 then (fm_note_53 top kn vl x1 k9 x2 x3 z0 fo pa fi va nd nk nv no) else ((fm_look top kn vl fo pa fi va x3).bind fun r5 => (fm_note_53 top kn vl x1 k9 x2 x3 z0 r5.1 r5.2.1 r5.2.2.1 r5.2.2.2 nd nk nv no))
def fm_note_36 (top : Nat) (kn : Nat → Int32) (vl : Nat → Int32) (x1 : Int32) (k9 : Int32 → Int32 → Int32 → Int32 → Int32 → Int32 → (Nat → Int32) → (Nat → Int32) → (Nat → Int32) → Int32 → Option (Int32 × Int32 × Int32 × Int32 × Int32 × (Nat → Int32) × (Nat → Int32) × (Nat → Int32) × Int32)) (x2 : Int32) (x3 : Int32) (fo : Int32) (pa : Int32) (fi : Int32) (va : Int32) (nd : Nat → Int32) (nk : Nat → Int32) (nv : Nat → Int32) (no : Int32) : Option (Int32 × Int32 × Int32 × Int32 × Int32 × (Nat → Int32) × (Nat → Int32) × (Nat → Int32) × Int32) := fm_note_41 top kn vl x1 k9 x2 x3 1 fo pa fi va nd nk nv no
def fm_note_40 (top : Nat) (kn : Nat → Int32) (vl : Nat → Int32) (x1 : Int32) (k9 : Int32 → Int32 → Int32 → Int32 → Int32 → Int32 → (Nat → Int32) → (Nat → Int32) → (Nat → Int32) → Int32 → Option (Int32 × Int32 × Int32 × Int32 × Int32 × (Nat → Int32) × (Nat → Int32) × (Nat → Int32) × Int32)) (x2 : Int32) (x3 : Int32) (fo : Int32) (pa : Int32) (fi : Int32) (va : Int32) (nd : Nat → Int32) (nk : Nat → Int32) (nv : Nat → Int32) (no : Int32) : Option (Int32 × Int32 × Int32 × Int32 × Int32 × (Nat → Int32) × (Nat → Int32) × (Nat → Int32) × Int32) := fm_note_41 top kn vl x1 k9 x2 x3 0 fo pa fi va nd nk nv no
def fm_note_9 (top : Nat) (kn : Nat → Int32) (vl : Nat → Int32) (x1 : Int32) : Nat → Int32 → Int32 → Int32 → Int32 → Int32 → Int32 → (Nat → Int32) → (Nat → Int32) → (Nat → Int32) → Int32 → Option (Int32 × Int32 × Int32 × Int32 × Int32 × (Nat → Int32) × (Nat → Int32) × (Nat → Int32) × Int32)
  | 0 => fun _ _ _ _ _ _ _ _ _ _ => none
  | n + 1 => fun x2 x3 fo pa fi va nd nk nv no => if 1296 ≤ x3 then (some (x2, fo, pa, fi, va, nd, nk, nv, no)) else (if x3 = x1 then (fm_note_36 top kn vl x1 (fm_note_9 top kn vl x1 n) x2 x3 fo pa fi va nd nk nv no) else ((fm_isBelow x3 x1).bind fun r7 => (if r7 = 0 then (fm_note_40 top kn vl x1 (fm_note_9 top kn vl x1 n) x2 x3 fo pa fi va nd nk nv no) else ((fm_isPath x3).bind fun r9 => (if r9 = 0 then (fm_note_40 top kn vl x1 (fm_note_9 top kn vl x1 n) x2 x3 fo pa fi va nd nk nv no) else (fm_note_36 top kn vl x1 (fm_note_9 top kn vl x1 n) x2 x3 fo pa fi va nd nk nv no))))))
def fm_note (top : Nat) (kn : Nat → Int32) (vl : Nat → Int32) (fo : Int32) (pa : Int32) (fi : Int32) (va : Int32) (nd : Nat → Int32) (nk : Nat → Int32) (nv : Nat → Int32) (no : Int32) (x1 : Int32) : Option (Int32 × Int32 × Int32 × Int32 × Int32 × (Nat → Int32) × (Nat → Int32) × (Nat → Int32) × Int32) := fm_note_9 top kn vl x1 fu_n 0 x1 fo pa fi va nd nk nv 0
def fm_rename_22 (top : Nat) (mt : Int32) (x1 : Int32) (x2 : Int32) (x3 : Int32) (x4 : Int32) (cu : Int32) (kn : Nat → Int32) (vl : Nat → Int32) (ok : Nat → Int32) (ov : Nat → Int32) (fo : Int32) (pa : Int32) (fi : Int32) (va : Int32) (nd : Nat → Int32) (nk : Nat → Int32) (nv : Nat → Int32) (no : Int32) : Option (Int32 × Int32 × (Nat → Int32) × (Nat → Int32) × (Nat → Int32) × (Nat → Int32) × Int32 × Int32 × Int32 × Int32 × (Nat → Int32) × (Nat → Int32) × (Nat → Int32) × Int32) := if mt = 0 then (some ((-1), cu, kn, vl, ok, ov, fo, pa, fi, va, nd, nk, nv, no)) else (some ((-2), cu, kn, vl, ok, ov, fo, pa, fi, va, nd, nk, nv, no))
def fm_rename_223 (top : Nat) (mt : Int32) (x1 : Int32) (x2 : Int32) (k181 : Int32 → Int32 → Int32 → Int32 → Int32 → Int32 → Int32 → Int32 → (Nat → Int32) → (Nat → Int32) → (Nat → Int32) → (Nat → Int32) → Int32 → Int32 → Int32 → Int32 → (Nat → Int32) → (Nat → Int32) → (Nat → Int32) → Int32 → Option (Int32 × Int32 × (Nat → Int32) × (Nat → Int32) × (Nat → Int32) × (Nat → Int32) × Int32 × Int32 × Int32 × Int32 × (Nat → Int32) × (Nat → Int32) × (Nat → Int32) × Int32)) : Nat → Int32 → Int32 → Int32 → Int32 → Int32 → Int32 → Int32 → Int32 → Int32 → Int32 → Int32 → Int32 → (Nat → Int32) → (Nat → Int32) → (Nat → Int32) → (Nat → Int32) → Int32 → Int32 → Int32 → Int32 → (Nat → Int32) → (Nat → Int32) → (Nat → Int32) → Int32 → Option (Int32 × Int32 × (Nat → Int32) × (Nat → Int32) × (Nat → Int32) × (Nat → Int32) × Int32 × Int32 × Int32 × Int32 × (Nat → Int32) × (Nat → Int32) × (Nat → Int32) × Int32)
  | 0 => fun _ _ _ _ _ _ _ _ _ _ _ _ _ _ _ _ _ _ _ _ _ _ _ _ => none
  | n + 1 => fun x3 x4 x5 x6 x7 x8 x9 x10 x11 x12 x13 cu kn vl ok ov fo pa fi va nd nk nv no => if x13 ≤ 0 then (ck_d (x9 < 0 ∨ 96 ≤ x9.toNatClampNeg) (ck_d (x9 < 0 ∨ 96 ≤ x9.toNatClampNeg) ((fm_make top cu kn vl fo pa fi va ((x11 + x10) - (x3 * x12)) (nk x9.toNatClampNeg) (nv x9.toNatClampNeg)).bind fun r1 => (k181 x3 x4 x5 x6 x7 x8 (x9 + 1) r1.1 r1.2.1 r1.2.2.1 ok ov r1.2.2.2.1 r1.2.2.2.2.1 r1.2.2.2.2.2.1 r1.2.2.2.2.2.2 nd nk nv no)))) else ((fm_rename_223 top mt x1 x2 k181 n) x3 x4 x5 x6 x7 x8 x9 x10 (x11 * 6) (x12 * 6) (x13 + (-1)) cu kn vl ok ov fo pa fi va nd nk nv no)
def fm_rename_181 (top : Nat) (mt : Int32) (x1 : Int32) (x2 : Int32) : Nat → Int32 → Int32 → Int32 → Int32 → Int32 → Int32 → Int32 → Int32 → (Nat → Int32) → (Nat → Int32) → (Nat → Int32) → (Nat → Int32) → Int32 → Int32 → Int32 → Int32 → (Nat → Int32) → (Nat → Int32) → (Nat → Int32) → Int32 → Option (Int32 × Int32 × (Nat → Int32) × (Nat → Int32) × (Nat → Int32) × (Nat → Int32) × Int32 × Int32 × Int32 × Int32 × (Nat → Int32) × (Nat → Int32) × (Nat → Int32) × Int32)
  | 0 => fun _ _ _ _ _ _ _ _ _ _ _ _ _ _ _ _ _ _ _ _ => none
  | n + 1 => fun x3 x4 x5 x6 x7 x8 x9 cu kn vl ok ov fo pa fi va nd nk nv no => if no ≤ x9 then ((fm_unmake top cu kn vl fo pa fi va x3).bind fun r3 => ((fm_end top r3.1 r3.2.1 r3.2.2.1 ok ov x8).bind fun r5 => (some (r5.1, r5.2.1, r5.2.2.1, r5.2.2.2, ok, ov, r3.2.2.2.1, r3.2.2.2.2.1, r3.2.2.2.2.2.1, r3.2.2.2.2.2.2, nd, nk, nv, no)))) else (ck_d (x9 < 0 ∨ 96 ≤ x9.toNatClampNeg) (ck_d (x9 < 0 ∨ 96 ≤ x9.toNatClampNeg) ((fm_depth (nd x9.toNatClampNeg)).bind fun r7 => ((fm_depth x3).bind fun r9 => (fm_rename_223 top mt x1 x2 (fm_rename_181 top mt x1 x2 n) fu_n x3 x4 x5 x6 x7 x8 x9 (nd x9.toNatClampNeg) x4 1 (r7 - r9) cu kn vl ok ov fo pa fi va nd nk nv no)))))
def fm_rename_146 (top : Nat) (mt : Int32) (x1 : Int32) (x2 : Int32) (x3 : Int32) (x4 : Int32) (x5 : Int32) (x6 : Int32) (cu : Int32) (kn : Nat → Int32) (vl : Nat → Int32) (ok : Nat → Int32) (ov : Nat → Int32) (fo : Int32) (pa : Int32) (fi : Int32) (va : Int32) (nd : Nat → Int32) (nk : Nat → Int32) (nv : Nat → Int32) (no : Int32) : Option (Int32 × Int32 × (Nat → Int32) × (Nat → Int32) × (Nat → Int32) × (Nat → Int32) × Int32 × Int32 × Int32 × Int32 × (Nat → Int32) × (Nat → Int32) × (Nat → Int32) × Int32) := (fm_note top kn vl fo pa fi va nd nk nv no x3).bind fun r11 => ((fm_depth x4).bind fun r13 => (if (r13 + r11.1) ≤ 4 then ((fm_keep top kn vl ok ov).bind fun r15 => (fm_rename_181 top mt x1 x2 fu_n x3 x4 x5 x6 r11.1 cu 0 cu kn vl r15.1 r15.2 r11.2.1 r11.2.2.1 r11.2.2.2.1 r11.2.2.2.2.1 r11.2.2.2.2.2.1 r11.2.2.2.2.2.2.1 r11.2.2.2.2.2.2.2.1 r11.2.2.2.2.2.2.2.2)) else (some ((-10), cu, kn, vl, ok, ov, r11.2.1, r11.2.2.1, r11.2.2.2.1, r11.2.2.2.2.1, r11.2.2.2.2.2.1, r11.2.2.2.2.2.2.1, r11.2.2.2.2.2.2.2.1, r11.2.2.2.2.2.2.2.2))))
def fm_rename_128 (top : Nat) (mt : Int32) (x1 : Int32) (x2 : Int32) (x3 : Int32) (x4 : Int32) (x5 : Int32) (x6 : Int32) (cu : Int32) (kn : Nat → Int32) (vl : Nat → Int32) (ok : Nat → Int32) (ov : Nat → Int32) (fo : Int32) (pa : Int32) (fi : Int32) (va : Int32) (nd : Nat → Int32) (nk : Nat → Int32) (nv : Nat → Int32) (no : Int32) : Option (Int32 × Int32 × (Nat → Int32) × (Nat → Int32) × (Nat → Int32) × (Nat → Int32) × Int32 × Int32 × Int32 × Int32 × (Nat → Int32) × (Nat → Int32) × (Nat → Int32) × Int32) := if x6 = 2 then ((fm_children top kn vl fo pa fi va x4).bind fun r17 => (if r17.1 ≤ 0 then (fm_rename_146 top mt x1 x2 x3 x4 x5 x6 cu kn vl ok ov r17.2.1 r17.2.2.1 r17.2.2.2.1 r17.2.2.2.2 nd nk nv no) else (some ((-8), cu, kn, vl, ok, ov, r17.2.1, r17.2.2.1, r17.2.2.2.1, r17.2.2.2.2, nd, nk, nv, no)))) else (fm_rename_146 top mt x1 x2 x3 x4 x5 x6 cu kn vl ok ov fo pa fi va nd nk nv no)
def fm_rename (top : Nat) (mt : Int32) (cu : Int32) (kn : Nat → Int32) (vl : Nat → Int32) (ok : Nat → Int32) (ov : Nat → Int32) (fo : Int32) (pa : Int32) (fi : Int32) (va : Int32) (nd : Nat → Int32) (nk : Nat → Int32) (nv : Nat → Int32) (no : Int32) (x1 : Int32) (x2 : Int32) : Option (Int32 × Int32 × (Nat → Int32) × (Nat → Int32) × (Nat → Int32) × (Nat → Int32) × Int32 × Int32 × Int32 × Int32 × (Nat → Int32) × (Nat → Int32) × (Nat → Int32) × Int32) := (fm_target mt x1).bind fun r19 => ((fm_target mt x2).bind fun r21 => (if r19 < 0 then (fm_rename_22 top mt x1 x2 r19 r21 cu kn vl ok ov fo pa fi va nd nk nv no) else (if 0 ≤ r21 then ((fm_look top kn vl fo pa fi va r19).bind fun r23 => (if r23.1 = 0 then (some ((-3), cu, kn, vl, ok, ov, r23.1, r23.2.1, r23.2.2.1, r23.2.2.2, nd, nk, nv, no)) else (if r19 = r21 then (some (0, cu, kn, vl, ok, ov, r23.1, r23.2.1, r23.2.2.1, r23.2.2.2, nd, nk, nv, no)) else ((fm_isBelow r21 r19).bind fun r25 => (if r25 = 0 then ((fm_isDirectory top kn vl r23.1 r23.2.1 r23.2.2.1 r23.2.2.2 (r21 / 6)).bind fun r27 => (if r27.1 = 0 then (some ((-4), cu, kn, vl, ok, ov, r27.2.1, r27.2.2.1, r27.2.2.2.1, r27.2.2.2.2, nd, nk, nv, no)) else ((fm_look top kn vl r27.2.1 r27.2.2.1 r27.2.2.2.1 r27.2.2.2.2 r21).bind fun r29 => (if r29.1 ≤ 0 then (fm_rename_128 top mt x1 x2 r19 r21 r23.1 r29.1 cu kn vl ok ov r29.1 r29.2.1 r29.2.2.1 r29.2.2.2 nd nk nv no) else (if r29.1 = r23.1 then (fm_rename_128 top mt x1 x2 r19 r21 r23.1 r29.1 cu kn vl ok ov r29.1 r29.2.1 r29.2.2.1 r29.2.2.2 nd nk nv no) else (if r29.1 = 2 then (some ((-6), cu, kn, vl, ok, ov, r29.1, r29.2.1, r29.2.2.1, r29.2.2.2, nd, nk, nv, no)) else (some ((-7), cu, kn, vl, ok, ov, r29.1, r29.2.1, r29.2.2.1, r29.2.2.2, nd, nk, nv, no)))))))) else (some ((-9), cu, kn, vl, ok, ov, r23.1, r23.2.1, r23.2.2.1, r23.2.2.2, nd, nk, nv, no))))))) else (fm_rename_22 top mt x1 x2 r19 r21 cu kn vl ok ov fo pa fi va nd nk nv no))))
end
section
set_option maxHeartbeats 4000000 in
set_option maxRecDepth 100000 in
theorem cp_child (l : Launch) (dC : Nat → ClassId) (dI : Nat → Nat → Nat) (cI cQ : ClassId) (t1 t2 bs : Nat) (x0 : Int32) (x1 : Int32) (v0 : Int32) (h : fp_child x0 x1 = some v0) : pu_M l yX1_child wsX1_child rm_0_0 [.int x0, .int x1] (gk_G dC dI cI cQ t1 t2 bs []) v0 := by
  intro sz
  refine Met.ofW (cc := cX1_child) (maxL := 2) (ret := (some .int)) (by decide) rfl ?_
  intro p e s m args below meth c_ s₁ B hml hv
  obtain ⟨rfl, hsz, hG, hP⟩ := hv
  have hx := B.exec
  have hb := B.bytes
  have hr := B.returns
  have hts := atoms_spec (ws := wsX1_child) B.pre
  have hown : s.vm.findClass RX1 = some m.cls := findClass_of_methodNamed B.named
  have hlocks := B.notSynchronized
  have hl := lv_entry ([.int x0, .int x1]) (n := 2) (Nat.le_of_ble_eq_true rfl)
  rw [lg_entry_eq]
  generalize (lg_sl ([.int x0, .int x1]) ++ List.replicate (2 - (lg_sl ([.int x0, .int x1])).length) Slot.unset).toArray = ls at hl ⊢
  have hl : lv_has ls 2 [(0, .int x0), (1, .int x1)] := hl
  refine nm_Q (fun Q hQ => ?_)
  unfold fp_child at h
  have hf := h
  refine lv_iload_n hx hb dX1_child_0 rfl (lv_at hl 0 rfl) ?_
  refine lv_iconst (v := 5) hx hb dX1_child_1 (by decide) ?_
  refine lv_imul hx hb dX1_child_2 ?_
  refine lv_iload_n hx hb dX1_child_3 rfl (lv_at hl 1 rfl) ?_
  refine lv_iadd hx hb dX1_child_4 ?_
  obtain rfl := Option.some.inj hf
  rw [hQ]
  exact pu_iret hx hb hr (vp_nar_int _) hsz dX1_child_5 hlocks
set_option maxHeartbeats 4000000 in
set_option maxRecDepth 100000 in
theorem cp_ofPath (l : Launch) (dC : Nat → ClassId) (dI : Nat → Nat → Nat) (cI cQ : ClassId) (t1 t2 bs : Nat) (x0 : Int32) (v0 : Int32) (h : fp_ofPath x0 = some v0) : pu_M l yX1_ofPath wsX1_ofPath rm_1_21 [.int x0] (gk_G dC dI cI cQ t1 t2 bs []) v0 := by
  intro sz
  refine Met.ofW (cc := cX1_ofPath) (maxL := 4) (ret := (some .int)) (by decide) rfl ?_
  intro p e s m args below meth c_ s₁ B hml hv
  obtain ⟨rfl, hsz, hG, hP⟩ := hv
  have hx := B.exec
  have hb := B.bytes
  have hr := B.returns
  have hts := atoms_spec (ws := wsX1_ofPath) B.pre
  have hown : s.vm.findClass RX1 = some m.cls := findClass_of_methodNamed B.named
  have hlocks := B.notSynchronized
  have hl := lv_entry ([.int x0]) (n := 4) (Nat.le_of_ble_eq_true rfl)
  rw [lg_entry_eq]
  generalize (lg_sl ([.int x0]) ++ List.replicate (4 - (lg_sl ([.int x0])).length) Slot.unset).toArray = ls at hl ⊢
  have hl : lv_has ls 4 [(0, .int x0)] := hl
  refine nm_Q (fun Q hQ => ?_)
  have B53 : ∀ (k19 : Int32 → Int32 → Option (Int32)) (hk19 : ∀ (x1 : Int32) (x2 : Int32), ∀ ls : Array Slot, k19 x1 x2 = some v0 → lv_has ls 4 [(0, .int x0), (1, .int x1), (2, .int x2)] → W p l e (headSpec wsX1_ofPath rm_1_21).room s m ([.int x0] : List Value).toArray below meth c_ s.heap [] 0 0 Q (F0 m 19 ls [])), ∀ (x1 : Int32) (x2 : Int32), ∀ ls : Array Slot, fp_ofPath_53 x0 k19 x1 x2 = some v0 → lv_has ls 4 [(0, .int x0), (1, .int x1), (2, .int x2)] → W p l e (headSpec wsX1_ofPath rm_1_21).room s m ([.int x0] : List Value).toArray below meth c_ s.heap [] 0 0 Q (F0 m 53 ls []) := by
    intro k19 hk19
    intro x1 x2 ls hf hl
    unfold fp_ofPath_53 at hf
    refine lv_iload_n hx hb dX1_ofPath_53 rfl (lv_at hl 2 rfl) ?_
    refine lv_bipush (v := 10) hx hb dX1_ofPath_54 (by decide) ?_
    refine lv_idiv hx hb dX1_ofPath_56 (by decide) ?_
    refine lv_istore_n (lv' := [(2, .int (x2 / 10)), (0, .int x0), (1, .int x1)]) hx hb dX1_ofPath_57 rfl hl (by decide) rfl (fun ls hl => ?_)
    refine lv_goto (tgt := 19) hx hb dX1_ofPath_58 (by decide) ?_
    exact hk19 x1 (x2 / 10) ls hf (lv_sub hl [1, 2, 0] rfl)
  have B19 : ∀ n : Nat, ∀ (x1 : Int32) (x2 : Int32), ∀ ls : Array Slot, fp_ofPath_19 x0 n x1 x2 = some v0 → lv_has ls 4 [(0, .int x0), (1, .int x1), (2, .int x2)] → W p l e (headSpec wsX1_ofPath rm_1_21).room s m ([.int x0] : List Value).toArray below meth c_ s.heap [] 0 0 Q (F0 m 19 ls []) := by
    intro n
    induction n with
    | zero => 
      intro x1 x2 ls hf hl
      exact nomatch (show (none : Option (Int32)) = some v0 from hf)
    | succ n ih =>
      intro x1 x2 ls hf hl
      rw [fp_ofPath_19.eq_2] at hf
      try dsimp only at hf
      refine lv_iload_n hx hb dX1_ofPath_19 rfl (lv_at hl 2 rfl) ?_
      refine lv_if_le (tgt := 61) hx hb dX1_ofPath_20 (by decide) (fun hc => ?_) (fun hc => ?_)
      · rw [if_pos hc] at hf
        refine lv_iload_n hx hb dX1_ofPath_61 rfl (lv_at hl 1 rfl) ?_
        obtain rfl := Option.some.inj hf
        rw [hQ]
        exact pu_iret hx hb hr (vp_nar_int _) hsz dX1_ofPath_62 hlocks
      · rw [if_neg hc] at hf
        refine lv_iload_n hx hb dX1_ofPath_23 rfl (lv_at hl 0 rfl) ?_
        refine lv_iload_n hx hb dX1_ofPath_24 rfl (lv_at hl 2 rfl) ?_
        refine lv_icmp_lt (tgt := 53) hx hb dX1_ofPath_25 (by decide) (fun hc => ?_) (fun hc => ?_)
        · rw [if_pos hc] at hf
          exact B53 (fp_ofPath_19 x0 n) ih x1 x2 ls hf (lv_sub hl [0, 1, 2] rfl)
        · rw [if_neg hc] at hf
          refine lv_iload_n hx hb dX1_ofPath_28 rfl (lv_at hl 0 rfl) ?_
          refine lv_iload_n hx hb dX1_ofPath_29 rfl (lv_at hl 2 rfl) ?_
          obtain ⟨hq, hf⟩ := ck_s hf
          refine lv_idiv hx hb dX1_ofPath_30 hq ?_
          refine lv_bipush (v := 10) hx hb dX1_ofPath_31 (by decide) ?_
          refine lv_irem hx hb dX1_ofPath_33 (by decide) ?_
          refine lv_istore_n (lv' := [(3, .int ((x0 / x2) - (x0 / x2) / 10 * 10)), (0, .int x0), (1, .int x1), (2, .int x2)]) hx hb dX1_ofPath_34 rfl hl (by decide) rfl (fun ls hl => ?_)
          refine lv_iload_n hx hb dX1_ofPath_35 rfl (lv_at hl 0 rfl) ?_
          refine lv_iconst (v := 1) hx hb dX1_ofPath_36 (by decide) ?_
          refine lv_icmp_lt (tgt := 45) hx hb dX1_ofPath_37 (by decide) (fun hc => ?_) (fun hc => ?_)
          · rw [if_pos hc] at hf
            refine lv_iconst (v := (-1)) hx hb dX1_ofPath_45 (by decide) ?_
            obtain rfl := Option.some.inj hf
            rw [hQ]
            exact pu_iret hx hb hr (vp_nar_int _) hsz dX1_ofPath_46 hlocks
          · rw [if_neg hc] at hf
            refine lv_iload_n hx hb dX1_ofPath_40 rfl (lv_at hl 0 rfl) ?_
            refine lv_iconst (v := 5) hx hb dX1_ofPath_41 (by decide) ?_
            refine lv_icmp_le (tgt := 47) hx hb dX1_ofPath_42 (by decide) (fun hc => ?_) (fun hc => ?_)
            · rw [if_pos hc] at hf
              refine lv_iload_n hx hb dX1_ofPath_47 rfl (lv_at hl 2 rfl) ?_
              refine lv_iload_n hx hb dX1_ofPath_48 rfl (lv_at hl 0 rfl) ?_
              obtain ⟨r1, e2, hf⟩ := ob_s hf
              try dsimp only at hf
              refine pu_calli (va_runS (As := [.int x1, .int ((x0 / x2) - (x0 / x2) / 10 * 10)]) (rest := []) ⟨hx, hb, hml, hown, hts⟩ (cp_child l dC dI cI cQ t1 t2 bs x1 ((x0 / x2) - (x0 / x2) / 10 * 10) r1 e2 s.heap.size) (va_cwS 2 hts (gs_S lk_0 lk_3 lk_1 lk_2) rfl rfl rfl (by decide +kernel) ⟨Nat.le_of_ble_eq_true rfl, Nat.le_of_ble_eq_true rfl⟩) (pr_S gk_W ⟨hG, pz_0⟩) rfl rfl hl.1 rfl (lv_room (Nat.le_of_ble_eq_true rfl)) dX1_ofPath_49 ⟨Nat.zero_le _, Nat.zero_le _⟩) ?_
              refine lv_istore_n (lv' := [(1, .int r1), (3, .int ((x0 / x2) - (x0 / x2) / 10 * 10)), (0, .int x0), (2, .int x2)]) hx hb dX1_ofPath_52 rfl hl (by decide) rfl (fun ls hl => ?_)
              exact B53 (fp_ofPath_19 x0 n) ih r1 x2 ls hf (lv_sub hl [2, 0, 3] rfl)
            · rw [if_neg hc] at hf
              refine lv_iconst (v := (-1)) hx hb dX1_ofPath_45 (by decide) ?_
              obtain rfl := Option.some.inj hf
              rw [hQ]
              exact pu_iret hx hb hr (vp_nar_int _) hsz dX1_ofPath_46 hlocks
  unfold fp_ofPath at h
  have hf := h
  refine lv_iload_n hx hb dX1_ofPath_0 rfl (lv_at hl 0 rfl) ?_
  refine lv_if_lt (tgt := 11) hx hb dX1_ofPath_1 (by decide) (fun hc => ?_) (fun hc => ?_)
  · rw [if_pos hc] at hf
    refine lv_iconst (v := (-1)) hx hb dX1_ofPath_11 (by decide) ?_
    obtain rfl := Option.some.inj hf
    rw [hQ]
    exact pu_iret hx hb hr (vp_nar_int _) hsz dX1_ofPath_12 hlocks
  · rw [if_neg hc] at hf
    refine lv_iload_n hx hb dX1_ofPath_4 rfl (lv_at hl 0 rfl) ?_
    refine lv_sipush (v := 10000) hx hb dX1_ofPath_5 (by decide) ?_
    refine lv_icmp_lt (tgt := 13) hx hb dX1_ofPath_8 (by decide) (fun hc => ?_) (fun hc => ?_)
    · rw [if_pos hc] at hf
      refine lv_iconst (v := 0) hx hb dX1_ofPath_13 (by decide) ?_
      refine lv_istore_n (lv' := [(1, .int 0), (0, .int x0)]) hx hb dX1_ofPath_14 rfl hl (by decide) rfl (fun ls hl => ?_)
      refine lv_sipush (v := 1000) hx hb dX1_ofPath_15 (by decide) ?_
      refine lv_istore_n (lv' := [(2, .int 1000), (1, .int 0), (0, .int x0)]) hx hb dX1_ofPath_18 rfl hl (by decide) rfl (fun ls hl => ?_)
      exact B19 fu_n 0 1000 ls hf (lv_sub hl [2, 1, 0] rfl)
    · rw [if_neg hc] at hf
      refine lv_iconst (v := (-1)) hx hb dX1_ofPath_11 (by decide) ?_
      obtain rfl := Option.some.inj hf
      rw [hQ]
      exact pu_iret hx hb hr (vp_nar_int _) hsz dX1_ofPath_12 hlocks
set_option maxHeartbeats 4000000 in
set_option maxRecDepth 100000 in
theorem cp_above (l : Launch) (dC : Nat → ClassId) (dI : Nat → Nat → Nat) (cI cQ : ClassId) (t1 t2 bs : Nat) (x0 : Int32) (x1 : Int32) (v0 : Int32) (h : fp_above x0 x1 = some v0) : pu_M l yX1_above wsX1_above rm_0_0 [.int x0, .int x1] (gk_G dC dI cI cQ t1 t2 bs []) v0 := by
  intro sz
  refine Met.ofW (cc := cX1_above) (maxL := 2) (ret := (some .int)) (by decide) rfl ?_
  intro p e s m args below meth c_ s₁ B hml hv
  obtain ⟨rfl, hsz, hG, hP⟩ := hv
  have hx := B.exec
  have hb := B.bytes
  have hr := B.returns
  have hts := atoms_spec (ws := wsX1_above) B.pre
  have hown : s.vm.findClass RX1 = some m.cls := findClass_of_methodNamed B.named
  have hlocks := B.notSynchronized
  have hT1 := hG.2.2.1
  have hT2 := hG.2.2.2.2
  have hl := lv_entry ([.int x0, .int x1]) (n := 2) (Nat.le_of_ble_eq_true rfl)
  rw [lg_entry_eq]
  generalize (lg_sl ([.int x0, .int x1]) ++ List.replicate (2 - (lg_sl ([.int x0, .int x1])).length) Slot.unset).toArray = ls at hl ⊢
  have hl : lv_has ls 2 [(0, .int x0), (1, .int x1)] := hl
  refine nm_Q (fun Q hQ => ?_)
  unfold fp_above at h
  have hf := h
  refine lv_iload_n hx hb dX1_above_0 rfl (lv_at hl 0 rfl) ?_
  refine va_gets (C := RX1) hx hb hG.2.1 (va_S.rf (A := fun q => bs ≤ q)) hown (hts _ (tw_in lk_6)) (fun _ h9 => h9) dX1_above_1 ?_
  refine lv_iload_n hx hb dX1_above_4 rfl (lv_at hl 1 rfl) ?_
  obtain ⟨hq, hf⟩ := ck_s hf
  refine va_ti (N := 5) hx hb hT1 (va_S.rf (A := fun q => bs ≤ q)) hq rfl dX1_above_5 ?_
  refine lv_isub hx hb dX1_above_6 ?_
  refine va_gets (C := RX1) hx hb hG.2.2.2.1 (va_S.rf (A := fun q => bs ≤ q)) hown (hts _ (tw_in lk_7)) (fun _ h9 => h9) dX1_above_7 ?_
  refine lv_iload_n hx hb dX1_above_10 rfl (lv_at hl 1 rfl) ?_
  obtain ⟨hq, hf⟩ := ck_s hf
  refine va_ti (N := 5) hx hb hT2 (va_S.rf (A := fun q => bs ≤ q)) hq rfl dX1_above_11 ?_
  obtain ⟨hq, hf⟩ := ck_s hf
  refine lv_idiv hx hb dX1_above_12 hq ?_
  obtain rfl := Option.some.inj hf
  rw [hQ]
  exact pu_iret hx hb hr (vp_nar_int _) hsz dX1_above_13 hlocks
set_option maxHeartbeats 4000000 in
set_option maxRecDepth 100000 in
theorem cp_parent (l : Launch) (dC : Nat → ClassId) (dI : Nat → Nat → Nat) (cI cQ : ClassId) (t1 t2 bs : Nat) (x0 : Int32) (v0 : Int32) (h : fp_parent x0 = some v0) : pu_M l yX1_parent wsX1_parent rm_1_21 [.int x0] (gk_G dC dI cI cQ t1 t2 bs []) v0 := by
  intro sz
  refine Met.ofW (cc := cX1_parent) (maxL := 1) (ret := (some .int)) (by decide) rfl ?_
  intro p e s m args below meth c_ s₁ B hml hv
  obtain ⟨rfl, hsz, hG, hP⟩ := hv
  have hx := B.exec
  have hb := B.bytes
  have hr := B.returns
  have hts := atoms_spec (ws := wsX1_parent) B.pre
  have hown : s.vm.findClass RX1 = some m.cls := findClass_of_methodNamed B.named
  have hlocks := B.notSynchronized
  have hl := lv_entry ([.int x0]) (n := 1) (Nat.le_of_ble_eq_true rfl)
  rw [lg_entry_eq]
  generalize (lg_sl ([.int x0]) ++ List.replicate (1 - (lg_sl ([.int x0])).length) Slot.unset).toArray = ls at hl ⊢
  have hl : lv_has ls 1 [(0, .int x0)] := hl
  refine nm_Q (fun Q hQ => ?_)
  unfold fp_parent at h
  have hf := h
  refine lv_iload_n hx hb dX1_parent_0 rfl (lv_at hl 0 rfl) ?_
  refine lv_iconst (v := 1) hx hb dX1_parent_1 (by decide) ?_
  obtain ⟨r1, e2, hf⟩ := ob_s hf
  try dsimp only at hf
  refine pu_calli (va_runS (As := [.int x0, .int 1]) (rest := []) ⟨hx, hb, hml, hown, hts⟩ (cp_above l dC dI cI cQ t1 t2 bs x0 1 r1 e2 s.heap.size) (va_cwS 2 hts (gs_S lk_8 lk_10 lk_1 lk_9) rfl rfl rfl (by decide +kernel) ⟨Nat.le_of_ble_eq_true rfl, Nat.le_of_ble_eq_true rfl⟩) (pr_S gk_W ⟨hG, pz_0⟩) rfl rfl hl.1 rfl (lv_room (Nat.le_of_ble_eq_true rfl)) dX1_parent_2 ⟨Nat.zero_le _, Nat.zero_le _⟩) ?_
  obtain rfl := Option.some.inj hf
  rw [hQ]
  exact pu_iret hx hb hr (vp_nar_int _) hsz dX1_parent_5 hlocks
set_option maxHeartbeats 4000000 in
set_option maxRecDepth 100000 in
theorem cp_depth (l : Launch) (dC : Nat → ClassId) (dI : Nat → Nat → Nat) (cI cQ : ClassId) (t1 t2 bs : Nat) (x0 : Int32) (v0 : Int32) (h : fp_depth x0 = some v0) : pu_M l yX1_depth wsX1_depth rm_0_0 [.int x0] (gk_G dC dI cI cQ t1 t2 bs []) v0 := by
  intro sz
  refine Met.ofW (cc := cX1_depth) (maxL := 2) (ret := (some .int)) (by decide) rfl ?_
  intro p e s m args below meth c_ s₁ B hml hv
  obtain ⟨rfl, hsz, hG, hP⟩ := hv
  have hx := B.exec
  have hb := B.bytes
  have hr := B.returns
  have hts := atoms_spec (ws := wsX1_depth) B.pre
  have hown : s.vm.findClass RX1 = some m.cls := findClass_of_methodNamed B.named
  have hlocks := B.notSynchronized
  have hT1 := hG.2.2.1
  have hT2 := hG.2.2.2.2
  have hl := lv_entry ([.int x0]) (n := 2) (Nat.le_of_ble_eq_true rfl)
  rw [lg_entry_eq]
  generalize (lg_sl ([.int x0]) ++ List.replicate (2 - (lg_sl ([.int x0])).length) Slot.unset).toArray = ls at hl ⊢
  have hl : lv_has ls 2 [(0, .int x0)] := hl
  refine nm_Q (fun Q hQ => ?_)
  have B2 : ∀ n : Nat, ∀ (x1 : Int32), ∀ ls : Array Slot, fp_depth_2 x0 n x1 = some v0 → lv_has ls 2 [(0, .int x0), (1, .int x1)] → W p l e (headSpec wsX1_depth rm_0_0).room s m ([.int x0] : List Value).toArray below meth c_ s.heap [] 0 0 Q (F0 m 2 ls []) := by
    intro n
    induction n with
    | zero => 
      intro x1 ls hf hl
      exact nomatch (show (none : Option (Int32)) = some v0 from hf)
    | succ n ih =>
      intro x1 ls hf hl
      rw [fp_depth_2.eq_2] at hf
      try dsimp only at hf
      refine lv_iload_n hx hb dX1_depth_2 rfl (lv_at hl 1 rfl) ?_
      refine lv_if_le (tgt := 21) hx hb dX1_depth_3 (by decide) (fun hc => ?_) (fun hc => ?_)
      · rw [if_pos hc] at hf
        refine lv_iload_n hx hb dX1_depth_21 rfl (lv_at hl 1 rfl) ?_
        obtain rfl := Option.some.inj hf
        rw [hQ]
        exact pu_iret hx hb hr (vp_nar_int _) hsz dX1_depth_22 hlocks
      · rw [if_neg hc] at hf
        refine lv_iload_n hx hb dX1_depth_6 rfl (lv_at hl 0 rfl) ?_
        refine va_gets (C := RX1) hx hb hG.2.1 (va_S.rf (A := fun q => bs ≤ q)) hown (hts _ (tw_in lk_6)) (fun _ h9 => h9) dX1_depth_7 ?_
        refine lv_iload_n hx hb dX1_depth_10 rfl (lv_at hl 1 rfl) ?_
        obtain ⟨hq, hf⟩ := ck_s hf
        refine va_ti (N := 5) hx hb hT1 (va_S.rf (A := fun q => bs ≤ q)) hq rfl dX1_depth_11 ?_
        refine lv_icmp_ge (tgt := 21) hx hb dX1_depth_12 (by decide) (fun hc => ?_) (fun hc => ?_)
        · rw [if_pos hc] at hf
          refine lv_iload_n hx hb dX1_depth_21 rfl (lv_at hl 1 rfl) ?_
          obtain rfl := Option.some.inj hf
          rw [hQ]
          exact pu_iret hx hb hr (vp_nar_int _) hsz dX1_depth_22 hlocks
        · rw [if_neg hc] at hf
          refine lv_iinc (k := 1) (v := x1 + (-1)) (lv' := [(1, .int (x1 + (-1))), (0, .int x0)]) hx hb dX1_depth_15 hl rfl (by rfl) (by decide) rfl (fun ls hl => ?_)
          refine lv_goto (tgt := 2) hx hb dX1_depth_18 (by decide) ?_
          exact ih (x1 + (-1)) ls hf (lv_sub hl [1, 0] rfl)
  unfold fp_depth at h
  have hf := h
  refine lv_iconst (v := 4) hx hb dX1_depth_0 (by decide) ?_
  refine lv_istore_n (lv' := [(1, .int 4), (0, .int x0)]) hx hb dX1_depth_1 rfl hl (by decide) rfl (fun ls hl => ?_)
  exact B2 fu_n 4 ls hf (lv_sub hl [1, 0] rfl)
set_option maxHeartbeats 4000000 in
set_option maxRecDepth 100000 in
theorem cp_isBelow (l : Launch) (dC : Nat → ClassId) (dI : Nat → Nat → Nat) (cI cQ : ClassId) (t1 t2 bs : Nat) (x0 : Int32) (x1 : Int32) (v0 : Int32) (h : fp_isBelow x0 x1 = some v0) : pu_M l yX1_isBelow wsX1_isBelow rm_1_21 [.int x0, .int x1] (gk_G dC dI cI cQ t1 t2 bs []) v0 := by
  intro sz
  refine Met.ofW (cc := cX1_isBelow) (maxL := 3) (ret := (some .boolean)) (by decide) rfl ?_
  intro p e s m args below meth c_ s₁ B hml hv
  obtain ⟨rfl, hsz, hG, hP⟩ := hv
  have hx := B.exec
  have hb := B.bytes
  have hr := B.returns
  have hts := atoms_spec (ws := wsX1_isBelow) B.pre
  have hown : s.vm.findClass RX1 = some m.cls := findClass_of_methodNamed B.named
  have hlocks := B.notSynchronized
  have hl := lv_entry ([.int x0, .int x1]) (n := 3) (Nat.le_of_ble_eq_true rfl)
  rw [lg_entry_eq]
  generalize (lg_sl ([.int x0, .int x1]) ++ List.replicate (3 - (lg_sl ([.int x0, .int x1])).length) Slot.unset).toArray = ls at hl ⊢
  have hl : lv_has ls 3 [(0, .int x0), (1, .int x1)] := hl
  refine nm_Q (fun Q hQ => ?_)
  unfold fp_isBelow at h
  have hf := h
  refine lv_iload_n hx hb dX1_isBelow_0 rfl (lv_at hl 0 rfl) ?_
  obtain ⟨r1, e2, hf⟩ := ob_s hf
  try dsimp only at hf
  refine pu_calli (va_runS (As := [.int x0]) (rest := []) ⟨hx, hb, hml, hown, hts⟩ (cp_depth l dC dI cI cQ t1 t2 bs x0 r1 e2 s.heap.size) (va_cwS 1 hts (gs_S lk_161 lk_75 lk_1 lk_74) rfl rfl rfl (by decide +kernel) ⟨Nat.le_of_ble_eq_true rfl, Nat.le_of_ble_eq_true rfl⟩) (pr_S gk_W ⟨hG, pz_0⟩) rfl rfl hl.1 rfl (lv_room (Nat.le_of_ble_eq_true rfl)) dX1_isBelow_1 ⟨Nat.zero_le _, Nat.zero_le _⟩) ?_
  refine lv_iload_n hx hb dX1_isBelow_4 rfl (lv_at hl 1 rfl) ?_
  obtain ⟨r3, e4, hf⟩ := ob_s hf
  try dsimp only at hf
  refine pu_calli (va_runS (As := [.int x1]) (rest := [.int r1]) ⟨hx, hb, hml, hown, hts⟩ (cp_depth l dC dI cI cQ t1 t2 bs x1 r3 e4 s.heap.size) (va_cwS 1 hts (gs_S lk_161 lk_75 lk_1 lk_74) rfl rfl rfl (by decide +kernel) ⟨Nat.le_of_ble_eq_true rfl, Nat.le_of_ble_eq_true rfl⟩) (pr_S gk_W ⟨hG, pz_0⟩) rfl rfl hl.1 rfl (lv_room (Nat.le_of_ble_eq_true rfl)) dX1_isBelow_5 ⟨Nat.zero_le _, Nat.zero_le _⟩) ?_
  refine lv_isub hx hb dX1_isBelow_8 ?_
  refine lv_istore_n (lv' := [(2, .int (r1 - r3)), (0, .int x0), (1, .int x1)]) hx hb dX1_isBelow_9 rfl hl (by decide) rfl (fun ls hl => ?_)
  refine lv_iload_n hx hb dX1_isBelow_10 rfl (lv_at hl 0 rfl) ?_
  refine lv_if_le (tgt := 27) hx hb dX1_isBelow_11 (by decide) (fun hc => ?_) (fun hc => ?_)
  · rw [if_pos hc] at hf
    refine lv_iconst (v := 0) hx hb dX1_isBelow_27 (by decide) ?_
    obtain rfl := Option.some.inj hf
    rw [hQ]
    exact pu_iret hx hb hr (rfl) hsz dX1_isBelow_28 hlocks
  · rw [if_neg hc] at hf
    refine lv_iload_n hx hb dX1_isBelow_14 rfl (lv_at hl 1 rfl) ?_
    refine lv_iload_n hx hb dX1_isBelow_15 rfl (lv_at hl 0 rfl) ?_
    obtain ⟨r5, e6, hf⟩ := ob_s hf
    try dsimp only at hf
    refine pu_calli (va_runS (As := [.int x0, .int (r1 - r3)]) (rest := []) ⟨hx, hb, hml, hown, hts⟩ (cp_above l dC dI cI cQ t1 t2 bs x0 (r1 - r3) r5 e6 s.heap.size) (va_cwS 2 hts (gs_S lk_8 lk_10 lk_1 lk_9) rfl rfl rfl (by decide +kernel) ⟨Nat.le_of_ble_eq_true rfl, Nat.le_of_ble_eq_true rfl⟩) (pr_S gk_W ⟨hG, pz_0⟩) rfl rfl hl.1 rfl (lv_room (Nat.le_of_ble_eq_true rfl)) dX1_isBelow_16 ⟨Nat.zero_le _, Nat.zero_le _⟩) ?_
    refine lv_iload_n hx hb dX1_isBelow_19 rfl (lv_at hl 2 rfl) ?_
    refine lv_icmp_ne (tgt := 27) hx hb dX1_isBelow_20 (by decide) (fun hc => ?_) (fun hc => ?_)
    · rw [if_neg hc] at hf
      refine lv_iconst (v := 0) hx hb dX1_isBelow_27 (by decide) ?_
      obtain rfl := Option.some.inj hf
      rw [hQ]
      exact pu_iret hx hb hr (rfl) hsz dX1_isBelow_28 hlocks
    · rw [if_pos hc] at hf
      refine lv_iconst (v := 1) hx hb dX1_isBelow_23 (by decide) ?_
      refine lv_goto (tgt := 28) hx hb dX1_isBelow_24 (by decide) ?_
      obtain rfl := Option.some.inj hf
      rw [hQ]
      exact pu_iret hx hb hr (rfl) hsz dX1_isBelow_28 hlocks
set_option maxHeartbeats 4000000 in
set_option maxRecDepth 100000 in
theorem cp_below (l : Launch) (dC : Nat → ClassId) (dI : Nat → Nat → Nat) (cI cQ : ClassId) (t1 t2 bs : Nat) (x0 : Int32) (x1 : Int32) (v0 : Int32) (h : fp_below x0 x1 = some v0) : pu_M l yX1_below wsX1_below rm_1_21 [.int x0, .int x1] (gk_G dC dI cI cQ t1 t2 bs []) v0 := by
  intro sz
  refine Met.ofW (cc := cX1_below) (maxL := 2) (ret := (some .int)) (by decide) rfl ?_
  intro p e s m args below meth c_ s₁ B hml hv
  obtain ⟨rfl, hsz, hG, hP⟩ := hv
  have hx := B.exec
  have hb := B.bytes
  have hr := B.returns
  have hts := atoms_spec (ws := wsX1_below) B.pre
  have hown : s.vm.findClass RX1 = some m.cls := findClass_of_methodNamed B.named
  have hlocks := B.notSynchronized
  have hT1 := hG.2.2.1
  have hT2 := hG.2.2.2.2
  have hl := lv_entry ([.int x0, .int x1]) (n := 2) (Nat.le_of_ble_eq_true rfl)
  rw [lg_entry_eq]
  generalize (lg_sl ([.int x0, .int x1]) ++ List.replicate (2 - (lg_sl ([.int x0, .int x1])).length) Slot.unset).toArray = ls at hl ⊢
  have hl : lv_has ls 2 [(0, .int x0), (1, .int x1)] := hl
  refine nm_Q (fun Q hQ => ?_)
  unfold fp_below at h
  have hf := h
  refine lv_iload_n hx hb dX1_below_0 rfl (lv_at hl 0 rfl) ?_
  refine va_gets (C := RX1) hx hb hG.2.2.2.1 (va_S.rf (A := fun q => bs ≤ q)) hown (hts _ (tw_in lk_7)) (fun _ h9 => h9) dX1_below_1 ?_
  refine lv_iload_n hx hb dX1_below_4 rfl (lv_at hl 1 rfl) ?_
  obtain ⟨r1, e2, hf⟩ := ob_s hf
  try dsimp only at hf
  refine pu_calli (va_runS (As := [.int x1]) (rest := [.ref t2, .int x0]) ⟨hx, hb, hml, hown, hts⟩ (cp_depth l dC dI cI cQ t1 t2 bs x1 r1 e2 s.heap.size) (va_cwS 1 hts (gs_S lk_161 lk_75 lk_1 lk_74) rfl rfl rfl (by decide +kernel) ⟨Nat.le_of_ble_eq_true rfl, Nat.le_of_ble_eq_true rfl⟩) (pr_S gk_W ⟨hG, pz_0⟩) rfl rfl hl.1 rfl (lv_room (Nat.le_of_ble_eq_true rfl)) dX1_below_5 ⟨Nat.zero_le _, Nat.zero_le _⟩) ?_
  obtain ⟨hq, hf⟩ := ck_s hf
  refine va_ti (N := 5) hx hb hT2 (va_S.rf (A := fun q => bs ≤ q)) hq rfl dX1_below_8 ?_
  refine lv_imul hx hb dX1_below_9 ?_
  refine lv_iload_n hx hb dX1_below_10 rfl (lv_at hl 1 rfl) ?_
  refine lv_iadd hx hb dX1_below_11 ?_
  obtain rfl := Option.some.inj hf
  rw [hQ]
  exact pu_iret hx hb hr (vp_nar_int _) hsz dX1_below_12 hlocks
end
section
set_option maxHeartbeats 4000000 in
set_option maxRecDepth 100000 in
theorem cy_kindAt (l : Launch) (dC : Nat → ClassId) (dI : Nat → Nat → Nat) (cI cQ : ClassId) (t1 t2 bs : Nat) (a0 a1 : Nat) (hg : gd_A bs [a0, a1]) (f : Nat → Int32) (fi : Int32) (wo : Int32) (x1 : Int32) (v0 : Int32) (h : fy_kindAt f x1 = some v0) : pu_M l yX0_kindAt wsX0_kindAt rm_0_0 [.ref a0, .int x1] (gk_G dC dI cI cQ t1 t2 bs (wl_L cI a0 a1 f fi wo)) v0 := by
  intro sz
  refine Met.ofW (cc := cX0_kindAt) (maxL := 2) (ret := (some .int)) (by decide) rfl ?_
  intro p e s m args below meth c_ s₁ B hml hv
  obtain ⟨rfl, hsz, hG, hP⟩ := hv
  have hx := B.exec
  have hb := B.bytes
  have hr := B.returns
  have hts := atoms_spec (ws := wsX0_kindAt) B.pre
  have hown : s.vm.findClass RX0 = some m.cls := findClass_of_methodNamed B.named
  have hlocks := B.notSynchronized
  have hiX0 : ∀ w ∈ u_ws RX0 TX0 3, w ∈ wsX0_kindAt := fun w hw => tw_in (usX0 w hw)
  have hl := lv_entry ([.ref a0, .int x1]) (n := 2) (Nat.le_of_ble_eq_true rfl)
  rw [lg_entry_eq]
  generalize (lg_sl ([.ref a0, .int x1]) ++ List.replicate (2 - (lg_sl ([.ref a0, .int x1])).length) Slot.unset).toArray = ls at hl ⊢
  have hl : lv_has ls 2 [(0, .ref a0), (1, .int x1)] := hl
  refine nm_Q (fun Q hQ => ?_)
  unfold fy_kindAt at h
  have hf := h
  refine lv_iload_n hx hb dX0_kindAt_0 rfl (lv_at hl 1 rfl) ?_
  refine lv_if_lt (tgt := 13) hx hb dX0_kindAt_1 (by decide) (fun hc => ?_) (fun hc => ?_)
  · rw [if_pos hc] at hf
    refine lv_iconst (v := 0) hx hb dX0_kindAt_13 (by decide) ?_
    obtain rfl := Option.some.inj hf
    rw [hQ]
    exact pu_iret hx hb hr (vp_nar_int _) hsz dX0_kindAt_14 hlocks
  · rw [if_neg hc] at hf
    refine lv_iload_n hx hb dX0_kindAt_4 rfl (lv_at hl 1 rfl) ?_
    refine lv_aload_n hx hb dX0_kindAt_5 rfl (lv_at hl 0 rfl) ?_
    refine va_get (D := (dC, dI)) (ci := 0) (v := .ref a1) (C := RX0) (T := TX0) (N := 3) hx hb hts hiX0 hown hG.1 hP 0 rfl rfl 0 (by decide) (hts _ (tw_in lk_5)) (fun _ h9 => h9) rfl dX0_kindAt_6 ?_
    refine va_alen (v := 781) hx hb hG.1 hP 1 0 rfl rfl rfl dX0_kindAt_9 ?_
    refine lv_icmp_lt (tgt := 15) hx hb dX0_kindAt_10 (by decide) (fun hc => ?_) (fun hc => ?_)
    · rw [if_pos hc] at hf
      refine lv_aload_n hx hb dX0_kindAt_15 rfl (lv_at hl 0 rfl) ?_
      refine va_get (D := (dC, dI)) (ci := 0) (v := .ref a1) (C := RX0) (T := TX0) (N := 3) hx hb hts hiX0 hown hG.1 hP 0 rfl rfl 0 (by decide) (hts _ (tw_in lk_5)) (fun _ h9 => h9) rfl dX0_kindAt_16 ?_
      refine lv_iload_n hx hb dX0_kindAt_19 rfl (lv_at hl 1 rfl) ?_
      obtain ⟨hq, hf⟩ := ck_s hf
      refine va_iald hx hb hG.1 hP 1 0 rfl rfl hq dX0_kindAt_20 ?_
      refine lv_if_ge (tgt := 28) hx hb dX0_kindAt_21 (by decide) (fun hc => ?_) (fun hc => ?_)
      · rw [if_pos hc] at hf
        refine lv_aload_n hx hb dX0_kindAt_28 rfl (lv_at hl 0 rfl) ?_
        refine va_get (D := (dC, dI)) (ci := 0) (v := .ref a1) (C := RX0) (T := TX0) (N := 3) hx hb hts hiX0 hown hG.1 hP 0 rfl rfl 0 (by decide) (hts _ (tw_in lk_5)) (fun _ h9 => h9) rfl dX0_kindAt_29 ?_
        refine lv_iload_n hx hb dX0_kindAt_32 rfl (lv_at hl 1 rfl) ?_
        obtain ⟨hq, hf⟩ := ck_s hf
        refine va_iald hx hb hG.1 hP 1 0 rfl rfl hq dX0_kindAt_33 ?_
        obtain rfl := Option.some.inj hf
        rw [hQ]
        exact pu_iret hx hb hr (vp_nar_int _) hsz dX0_kindAt_34 hlocks
      · rw [if_neg hc] at hf
        refine lv_iconst (v := 1) hx hb dX0_kindAt_24 (by decide) ?_
        refine lv_goto (tgt := 34) hx hb dX0_kindAt_25 (by decide) ?_
        obtain rfl := Option.some.inj hf
        rw [hQ]
        exact pu_iret hx hb hr (vp_nar_int _) hsz dX0_kindAt_34 hlocks
    · rw [if_neg hc] at hf
      refine lv_iconst (v := 0) hx hb dX0_kindAt_13 (by decide) ?_
      obtain rfl := Option.some.inj hf
      rw [hQ]
      exact pu_iret hx hb hr (vp_nar_int _) hsz dX0_kindAt_14 hlocks
set_option maxHeartbeats 4000000 in
set_option maxRecDepth 100000 in
theorem cy_canHoldIn (l : Launch) (dC : Nat → ClassId) (dI : Nat → Nat → Nat) (cI cQ : ClassId) (t1 t2 bs : Nat) (a0 a1 : Nat) (hg : gd_A bs [a0, a1]) (f : Nat → Int32) (fi : Int32) (wo : Int32) (x1 : Int32) (v0 : Int32) (h : fy_canHoldIn f x1 = some v0) : pu_M l yX0_canHoldIn wsX0_canHoldIn rm_1_21 [.ref a0, .int x1] (gk_G dC dI cI cQ t1 t2 bs (wl_L cI a0 a1 f fi wo)) v0 := by
  intro sz
  refine Met.ofW (cc := cX0_canHoldIn) (maxL := 2) (ret := (some .boolean)) (by decide) rfl ?_
  intro p e s m args below meth c_ s₁ B hml hv
  obtain ⟨rfl, hsz, hG, hP⟩ := hv
  have hx := B.exec
  have hb := B.bytes
  have hr := B.returns
  have hts := atoms_spec (ws := wsX0_canHoldIn) B.pre
  have hown : s.vm.findClass RX0 = some m.cls := findClass_of_methodNamed B.named
  have hlocks := B.notSynchronized
  have hl := lv_entry ([.ref a0, .int x1]) (n := 2) (Nat.le_of_ble_eq_true rfl)
  rw [lg_entry_eq]
  generalize (lg_sl ([.ref a0, .int x1]) ++ List.replicate (2 - (lg_sl ([.ref a0, .int x1])).length) Slot.unset).toArray = ls at hl ⊢
  have hl : lv_has ls 2 [(0, .ref a0), (1, .int x1)] := hl
  refine nm_Q (fun Q hQ => ?_)
  unfold fy_canHoldIn at h
  have hf := h
  refine lv_iload_n hx hb dX0_canHoldIn_0 rfl (lv_at hl 1 rfl) ?_
  refine lv_if_eq (tgt := 22) hx hb dX0_canHoldIn_1 (by decide) (fun hc => ?_) (fun hc => ?_)
  · rw [if_pos hc] at hf
    refine lv_iconst (v := 1) hx hb dX0_canHoldIn_22 (by decide) ?_
    refine lv_goto (tgt := 27) hx hb dX0_canHoldIn_23 (by decide) ?_
    obtain rfl := Option.some.inj hf
    rw [hQ]
    exact pu_iret hx hb hr (rfl) hsz dX0_canHoldIn_27 hlocks
  · rw [if_neg hc] at hf
    refine lv_aload_n hx hb dX0_canHoldIn_4 rfl (lv_at hl 0 rfl) ?_
    refine lv_iload_n hx hb dX0_canHoldIn_5 rfl (lv_at hl 1 rfl) ?_
    obtain ⟨r1, e2, hf⟩ := ob_s hf
    try dsimp only at hf
    refine pu_calli (va_runV (As := [.int x1]) (rest := []) ⟨hx, hb, hml, hown, hts⟩ (cy_kindAt l dC dI cI cQ t1 t2 bs a0 a1 hg f fi wo x1 r1 e2 s.heap.size) (cwV 1 hts (gs_V lk_11 lk_14 lk_15 lk_12 lk_13) rfl rfl rfl (by decide +kernel) ⟨Nat.le_of_ble_eq_true rfl, Nat.le_of_ble_eq_true rfl⟩) (pr_V gk_W (va_recv hG.1 hP (q0 := 0) rfl rfl) ⟨hG, hP⟩) rfl rfl hl.1 rfl (lv_room (Nat.le_of_ble_eq_true rfl)) dX0_canHoldIn_6 ⟨Nat.zero_le _, Nat.zero_le _⟩) ?_
    refine lv_iconst (v := 2) hx hb dX0_canHoldIn_9 (by decide) ?_
    refine lv_icmp_eq (tgt := 22) hx hb dX0_canHoldIn_10 (by decide) (fun hc => ?_) (fun hc => ?_)
    · rw [if_pos hc] at hf
      refine lv_iconst (v := 1) hx hb dX0_canHoldIn_22 (by decide) ?_
      refine lv_goto (tgt := 27) hx hb dX0_canHoldIn_23 (by decide) ?_
      obtain rfl := Option.some.inj hf
      rw [hQ]
      exact pu_iret hx hb hr (rfl) hsz dX0_canHoldIn_27 hlocks
    · rw [if_neg hc] at hf
      refine lv_aload_n hx hb dX0_canHoldIn_13 rfl (lv_at hl 0 rfl) ?_
      refine lv_iload_n hx hb dX0_canHoldIn_14 rfl (lv_at hl 1 rfl) ?_
      obtain ⟨r3, e4, hf⟩ := ob_s hf
      try dsimp only at hf
      refine pu_calli (va_runV (As := [.int x1]) (rest := []) ⟨hx, hb, hml, hown, hts⟩ (cy_kindAt l dC dI cI cQ t1 t2 bs a0 a1 hg f fi wo x1 r3 e4 s.heap.size) (cwV 1 hts (gs_V lk_11 lk_14 lk_15 lk_12 lk_13) rfl rfl rfl (by decide +kernel) ⟨Nat.le_of_ble_eq_true rfl, Nat.le_of_ble_eq_true rfl⟩) (pr_V gk_W (va_recv hG.1 hP (q0 := 0) rfl rfl) ⟨hG, hP⟩) rfl rfl hl.1 rfl (lv_room (Nat.le_of_ble_eq_true rfl)) dX0_canHoldIn_15 ⟨Nat.zero_le _, Nat.zero_le _⟩) ?_
      refine lv_iconst (v := 3) hx hb dX0_canHoldIn_18 (by decide) ?_
      refine lv_icmp_ne (tgt := 26) hx hb dX0_canHoldIn_19 (by decide) (fun hc => ?_) (fun hc => ?_)
      · rw [if_neg hc] at hf
        refine lv_iconst (v := 0) hx hb dX0_canHoldIn_26 (by decide) ?_
        obtain rfl := Option.some.inj hf
        rw [hQ]
        exact pu_iret hx hb hr (rfl) hsz dX0_canHoldIn_27 hlocks
      · rw [if_pos hc] at hf
        refine lv_iconst (v := 1) hx hb dX0_canHoldIn_22 (by decide) ?_
        refine lv_goto (tgt := 27) hx hb dX0_canHoldIn_23 (by decide) ?_
        obtain rfl := Option.some.inj hf
        rw [hQ]
        exact pu_iret hx hb hr (rfl) hsz dX0_canHoldIn_27 hlocks
set_option maxHeartbeats 4000000 in
set_option maxRecDepth 100000 in
theorem cy_entryCount (l : Launch) (dC : Nat → ClassId) (dI : Nat → Nat → Nat) (cI cQ : ClassId) (t1 t2 bs : Nat) (a0 a1 : Nat) (hg : gd_A bs [a0, a1]) (f : Nat → Int32) (fi : Int32) (wo : Int32) (v0 : Int32) (h : fy_entryCount fi = some v0) : pu_M l yX0_entryCount wsX0_entryCount rm_0_0 [.ref a0] (gk_G dC dI cI cQ t1 t2 bs (wl_L cI a0 a1 f fi wo)) v0 := by
  intro sz
  refine Met.ofW (cc := cX0_entryCount) (maxL := 1) (ret := (some .int)) (by decide) rfl ?_
  intro p e s m args below meth c_ s₁ B hml hv
  obtain ⟨rfl, hsz, hG, hP⟩ := hv
  have hx := B.exec
  have hb := B.bytes
  have hr := B.returns
  have hts := atoms_spec (ws := wsX0_entryCount) B.pre
  have hown : s.vm.findClass RX0 = some m.cls := findClass_of_methodNamed B.named
  have hlocks := B.notSynchronized
  have hiX0 : ∀ w ∈ u_ws RX0 TX0 3, w ∈ wsX0_entryCount := fun w hw => tw_in (usX0 w hw)
  have hl := lv_entry ([.ref a0]) (n := 1) (Nat.le_of_ble_eq_true rfl)
  rw [lg_entry_eq]
  generalize (lg_sl ([.ref a0]) ++ List.replicate (1 - (lg_sl ([.ref a0])).length) Slot.unset).toArray = ls at hl ⊢
  have hl : lv_has ls 1 [(0, .ref a0)] := hl
  refine nm_Q (fun Q hQ => ?_)
  unfold fy_entryCount at h
  have hf := h
  refine lv_aload_n hx hb dX0_entryCount_0 rfl (lv_at hl 0 rfl) ?_
  refine va_get (D := (dC, dI)) (ci := 0) (v := .int fi) (C := RX0) (T := TX0) (N := 3) hx hb hts hiX0 hown hG.1 hP 0 rfl rfl 1 (by decide) (hts _ (tw_in lk_16)) (fun _ h9 => h9) rfl dX0_entryCount_1 ?_
  obtain rfl := Option.some.inj hf
  rw [hQ]
  exact pu_iret hx hb hr (vp_nar_int _) hsz dX0_entryCount_4 hlocks
set_option maxHeartbeats 4000000 in
set_option maxRecDepth 100000 in
theorem cy_set (l : Launch) (dC : Nat → ClassId) (dI : Nat → Nat → Nat) (cI cQ : ClassId) (t1 t2 bs : Nat) (a0 a1 : Nat) (hg : gd_A bs [a0, a1]) (f : Nat → Int32) (fi : Int32) (wo : Int32) (x1 : Int32) (x2 : Int32) (v0 : (Nat → Int32) × Int32 × Int32) (h : fy_set f fi wo x1 x2 = some v0) : im_V l yX0_set wsX0_set rm_0_0 [.ref a0, .int x1, .int x2] (gk_G dC dI cI cQ t1 t2 bs (wl_L cI a0 a1 f fi wo)) (va_P (dC, dI) vwCl (wl_L cI a0 a1 v0.1 v0.2.1 v0.2.2)) (in_A [a0, a1]) := by
  intro sz
  refine Met.ofW (cc := cX0_set) (maxL := 3) (ret := none) (by decide) rfl ?_
  intro p e s m args below meth c_ s₁ B hml hv
  obtain ⟨rfl, hsz, hG, hP⟩ := hv
  have hx := B.exec
  have hb := B.bytes
  have hr := B.returns
  have hts := atoms_spec (ws := wsX0_set) B.pre
  have hown : s.vm.findClass RX0 = some m.cls := findClass_of_methodNamed B.named
  have hlocks := B.notSynchronized
  have hiX0 : ∀ w ∈ u_ws RX0 TX0 3, w ∈ wsX0_set := fun w hw => tw_in (usX0 w hw)
  have hl := lv_entry ([.ref a0, .int x1, .int x2]) (n := 3) (Nat.le_of_ble_eq_true rfl)
  rw [lg_entry_eq]
  generalize (lg_sl ([.ref a0, .int x1, .int x2]) ++ List.replicate (3 - (lg_sl ([.ref a0, .int x1, .int x2])).length) Slot.unset).toArray = ls at hl ⊢
  have hl : lv_has ls 3 [(0, .ref a0), (1, .int x1), (2, .int x2)] := hl
  refine nm_Q (fun Q hQ => ?_)
  have B77 : ∀ (z0 : Int32) (z1 : Int32) (z2 : Int32) (f : Nat → Int32) (fi : Int32) (wo : Int32), ∀ (H : Heap) (locs : List Loc), va_P (dC, dI) vwCl (wl_L cI a0 a1 f fi wo) H → va_S (in_A [a0, a1]) s.heap H locs → ∀ ls : Array Slot, fy_set_77 x1 x2 z0 z1 z2 f fi wo = some v0 → lv_has ls 3 [(0, .ref a0), (1, .int x1), (2, .int x2)] → W p l e (headSpec wsX0_set rm_0_0).room s m ([.ref a0, .int x1, .int x2] : List Value).toArray below meth c_ H locs 0 0 Q (F0 m 77 ls [.int z0, .int z1, .int z2, .ref a0]) := by
    intro z0 z1 z2 f fi wo H locs hP hS ls hf hl
    unfold fy_set_77 at hf
    refine lv_isub hx hb dX0_set_77 ?_
    refine lv_iadd hx hb dX0_set_78 ?_
    refine va_put (D := (dC, dI)) (ci := 0) (v := .int (z2 + (z1 - z0))) (ty := .int) (C := RX0) (T := TX0) (N := 3) hx hb hts hiX0 tyX0 tyX0_ok nmX0 hown hG.1 hP (dd_A hg rfl) hS 0 rfl rfl 2 (by decide) (hts _ (tw_in lk_23)) (fun _ h9 => h9) rfl (by decide +kernel) rfl rfl (Nat.le_of_ble_eq_true rfl) dX0_set_79 (fun H locs hP _ hS => ?_)
    have hP : va_P (dC, dI) vwCl (wl_L cI a0 a1 f fi (z2 + (z1 - z0))) H := hP
    refine lv_aload_n hx hb dX0_set_82 rfl (lv_at hl 0 rfl) ?_
    refine va_get (D := (dC, dI)) (ci := 0) (v := .ref a1) (C := RX0) (T := TX0) (N := 3) hx hb hts hiX0 hown hG.1 hP 0 rfl rfl 0 (by decide) (hts _ (tw_in lk_5)) (fun _ h9 => h9) rfl dX0_set_83 ?_
    refine lv_iload_n hx hb dX0_set_86 rfl (lv_at hl 1 rfl) ?_
    refine lv_iload_n hx hb dX0_set_87 rfl (lv_at hl 2 rfl) ?_
    obtain ⟨hq, hf⟩ := ck_s hf
    refine va_iast hx hb hG.1 hP (dd_A hg rfl) hS 1 0 rfl rfl hq dX0_set_88 (fun H locs hP _ hS => ?_)
    have hP : va_P (dC, dI) vwCl (wl_L cI a0 a1 (upd f x1.toNatClampNeg x2) fi (z2 + (z1 - z0))) H := hP
    obtain rfl := Option.some.inj hf
    rw [hQ]
    exact im_vret hx hb hr hS hP dX0_set_89 hlocks
  have B62 : ∀ (z0 : Int32) (z1 : Int32) (f : Nat → Int32) (fi : Int32) (wo : Int32), ∀ (H : Heap) (locs : List Loc), va_P (dC, dI) vwCl (wl_L cI a0 a1 f fi wo) H → va_S (in_A [a0, a1]) s.heap H locs → ∀ ls : Array Slot, fy_set_62 x1 x2 z0 z1 f fi wo = some v0 → lv_has ls 3 [(0, .ref a0), (1, .int x1), (2, .int x2)] → W p l e (headSpec wsX0_set rm_0_0).room s m ([.ref a0, .int x1, .int x2] : List Value).toArray below meth c_ H locs 0 0 Q (F0 m 62 ls [.int z0, .int z1, .ref a0]) := by
    intro z0 z1 f fi wo H locs hP hS ls hf hl
    unfold fy_set_62 at hf
    refine lv_aload_n hx hb dX0_set_62 rfl (lv_at hl 0 rfl) ?_
    refine va_get (D := (dC, dI)) (ci := 0) (v := .ref a1) (C := RX0) (T := TX0) (N := 3) hx hb hts hiX0 hown hG.1 hP 0 rfl rfl 0 (by decide) (hts _ (tw_in lk_5)) (fun _ h9 => h9) rfl dX0_set_63 ?_
    refine lv_iload_n hx hb dX0_set_66 rfl (lv_at hl 1 rfl) ?_
    obtain ⟨hq, hf⟩ := ck_s hf
    refine va_iald hx hb hG.1 hP 1 0 rfl rfl hq dX0_set_67 ?_
    refine lv_iconst (v := 4) hx hb dX0_set_68 (by decide) ?_
    refine lv_icmp_ne (tgt := 76) hx hb dX0_set_69 (by decide) (fun hc => ?_) (fun hc => ?_)
    · rw [if_neg hc] at hf
      refine lv_iconst (v := 0) hx hb dX0_set_76 (by decide) ?_
      exact B77 0 z0 z1 f fi wo H locs hP hS ls hf (lv_sub hl [0, 1, 2] rfl)
    · rw [if_pos hc] at hf
      refine lv_iconst (v := 1) hx hb dX0_set_72 (by decide) ?_
      refine lv_goto (tgt := 77) hx hb dX0_set_73 (by decide) ?_
      exact B77 1 z0 z1 f fi wo H locs hP hS ls hf (lv_sub hl [0, 1, 2] rfl)
  have B42 : ∀ (z0 : Int32) (z1 : Int32) (z2 : Int32) (f : Nat → Int32) (fi : Int32) (wo : Int32), ∀ (H : Heap) (locs : List Loc), va_P (dC, dI) vwCl (wl_L cI a0 a1 f fi wo) H → va_S (in_A [a0, a1]) s.heap H locs → ∀ ls : Array Slot, fy_set_42 x1 x2 z0 z1 z2 f fi wo = some v0 → lv_has ls 3 [(0, .ref a0), (1, .int x1), (2, .int x2)] → W p l e (headSpec wsX0_set rm_0_0).room s m ([.ref a0, .int x1, .int x2] : List Value).toArray below meth c_ H locs 0 0 Q (F0 m 42 ls [.int z0, .int z1, .int z2, .ref a0]) := by
    intro z0 z1 z2 f fi wo H locs hP hS ls hf hl
    unfold fy_set_42 at hf
    refine lv_isub hx hb dX0_set_42 ?_
    refine lv_iadd hx hb dX0_set_43 ?_
    refine va_put (D := (dC, dI)) (ci := 0) (v := .int (z2 + (z1 - z0))) (ty := .int) (C := RX0) (T := TX0) (N := 3) hx hb hts hiX0 tyX0 tyX0_ok nmX0 hown hG.1 hP (dd_A hg rfl) hS 0 rfl rfl 1 (by decide) (hts _ (tw_in lk_16)) (fun _ h9 => h9) rfl (by decide +kernel) rfl rfl (Nat.le_of_ble_eq_true rfl) dX0_set_44 (fun H locs hP _ hS => ?_)
    have hP : va_P (dC, dI) vwCl (wl_L cI a0 a1 f (z2 + (z1 - z0)) wo) H := hP
    refine lv_aload_n hx hb dX0_set_47 rfl (lv_at hl 0 rfl) ?_
    refine lv_dup hx hb dX0_set_48 rfl ?_
    refine va_get (D := (dC, dI)) (ci := 0) (v := .int wo) (C := RX0) (T := TX0) (N := 3) hx hb hts hiX0 hown hG.1 hP 0 rfl rfl 2 (by decide) (hts _ (tw_in lk_23)) (fun _ h9 => h9) rfl dX0_set_49 ?_
    refine lv_iload_n hx hb dX0_set_52 rfl (lv_at hl 2 rfl) ?_
    refine lv_iconst (v := 4) hx hb dX0_set_53 (by decide) ?_
    refine lv_icmp_ne (tgt := 61) hx hb dX0_set_54 (by decide) (fun hc => ?_) (fun hc => ?_)
    · rw [if_neg hc] at hf
      refine lv_iconst (v := 0) hx hb dX0_set_61 (by decide) ?_
      exact B62 0 wo f (z2 + (z1 - z0)) wo H locs hP hS ls hf (lv_sub hl [0, 1, 2] rfl)
    · rw [if_pos hc] at hf
      refine lv_iconst (v := 1) hx hb dX0_set_57 (by decide) ?_
      refine lv_goto (tgt := 62) hx hb dX0_set_58 (by decide) ?_
      exact B62 1 wo f (z2 + (z1 - z0)) wo H locs hP hS ls hf (lv_sub hl [0, 1, 2] rfl)
  have B28 : ∀ (z0 : Int32) (z1 : Int32) (f : Nat → Int32) (fi : Int32) (wo : Int32), ∀ (H : Heap) (locs : List Loc), va_P (dC, dI) vwCl (wl_L cI a0 a1 f fi wo) H → va_S (in_A [a0, a1]) s.heap H locs → ∀ ls : Array Slot, fy_set_28 x1 x2 z0 z1 f fi wo = some v0 → lv_has ls 3 [(0, .ref a0), (1, .int x1), (2, .int x2)] → W p l e (headSpec wsX0_set rm_0_0).room s m ([.ref a0, .int x1, .int x2] : List Value).toArray below meth c_ H locs 0 0 Q (F0 m 28 ls [.int z0, .int z1, .ref a0]) := by
    intro z0 z1 f fi wo H locs hP hS ls hf hl
    unfold fy_set_28 at hf
    refine lv_aload_n hx hb dX0_set_28 rfl (lv_at hl 0 rfl) ?_
    refine va_get (D := (dC, dI)) (ci := 0) (v := .ref a1) (C := RX0) (T := TX0) (N := 3) hx hb hts hiX0 hown hG.1 hP 0 rfl rfl 0 (by decide) (hts _ (tw_in lk_5)) (fun _ h9 => h9) rfl dX0_set_29 ?_
    refine lv_iload_n hx hb dX0_set_32 rfl (lv_at hl 1 rfl) ?_
    obtain ⟨hq, hf⟩ := ck_s hf
    refine va_iald hx hb hG.1 hP 1 0 rfl rfl hq dX0_set_33 ?_
    refine lv_if_ne (tgt := 41) hx hb dX0_set_34 (by decide) (fun hc => ?_) (fun hc => ?_)
    · rw [if_neg hc] at hf
      refine lv_iconst (v := 1) hx hb dX0_set_41 (by decide) ?_
      exact B42 1 z0 z1 f fi wo H locs hP hS ls hf (lv_sub hl [0, 1, 2] rfl)
    · rw [if_pos hc] at hf
      refine lv_iconst (v := 0) hx hb dX0_set_37 (by decide) ?_
      refine lv_goto (tgt := 42) hx hb dX0_set_38 (by decide) ?_
      exact B42 0 z0 z1 f fi wo H locs hP hS ls hf (lv_sub hl [0, 1, 2] rfl)
  unfold fy_set at h
  have hgo : ∀ (H : Heap) (locs : List Loc), va_P (dC, dI) vwCl (wl_L cI a0 a1 f fi wo) H → va_S (in_A [a0, a1]) s.heap H locs → W p l e (headSpec wsX0_set rm_0_0).room s m ([.ref a0, .int x1, .int x2] : List Value).toArray below meth c_ H locs 0 0 Q (F0 m 0 ls []) := by
    intro H locs hP hS
    have hf := h
    refine lv_iload_n hx hb dX0_set_0 rfl (lv_at hl 1 rfl) ?_
    refine lv_if_le (tgt := 13) hx hb dX0_set_1 (by decide) (fun hc => ?_) (fun hc => ?_)
    · rw [if_pos hc] at hf
      obtain rfl := Option.some.inj hf
      rw [hQ]
      exact im_vret hx hb hr hS hP dX0_set_13 hlocks
    · rw [if_neg hc] at hf
      refine lv_iload_n hx hb dX0_set_4 rfl (lv_at hl 1 rfl) ?_
      refine lv_aload_n hx hb dX0_set_5 rfl (lv_at hl 0 rfl) ?_
      refine va_get (D := (dC, dI)) (ci := 0) (v := .ref a1) (C := RX0) (T := TX0) (N := 3) hx hb hts hiX0 hown hG.1 hP 0 rfl rfl 0 (by decide) (hts _ (tw_in lk_5)) (fun _ h9 => h9) rfl dX0_set_6 ?_
      refine va_alen (v := 781) hx hb hG.1 hP 1 0 rfl rfl rfl dX0_set_9 ?_
      refine lv_icmp_lt (tgt := 14) hx hb dX0_set_10 (by decide) (fun hc => ?_) (fun hc => ?_)
      · rw [if_pos hc] at hf
        refine lv_aload_n hx hb dX0_set_14 rfl (lv_at hl 0 rfl) ?_
        refine lv_dup hx hb dX0_set_15 rfl ?_
        refine va_get (D := (dC, dI)) (ci := 0) (v := .int fi) (C := RX0) (T := TX0) (N := 3) hx hb hts hiX0 hown hG.1 hP 0 rfl rfl 1 (by decide) (hts _ (tw_in lk_16)) (fun _ h9 => h9) rfl dX0_set_16 ?_
        refine lv_iload_n hx hb dX0_set_19 rfl (lv_at hl 2 rfl) ?_
        refine lv_if_ne (tgt := 27) hx hb dX0_set_20 (by decide) (fun hc => ?_) (fun hc => ?_)
        · rw [if_neg hc] at hf
          refine lv_iconst (v := 1) hx hb dX0_set_27 (by decide) ?_
          exact B28 1 fi f fi wo H locs hP hS ls hf (lv_sub hl [0, 1, 2] rfl)
        · rw [if_pos hc] at hf
          refine lv_iconst (v := 0) hx hb dX0_set_23 (by decide) ?_
          refine lv_goto (tgt := 28) hx hb dX0_set_24 (by decide) ?_
          exact B28 0 fi f fi wo H locs hP hS ls hf (lv_sub hl [0, 1, 2] rfl)
      · rw [if_neg hc] at hf
        obtain rfl := Option.some.inj hf
        rw [hQ]
        exact im_vret hx hb hr hS hP dX0_set_13 hlocks
  exact hgo s.heap [] hP va_S.rf
set_option maxHeartbeats 4000000 in
set_option maxRecDepth 100000 in
theorem cy_fileCell (l : Launch) (dC : Nat → ClassId) (dI : Nat → Nat → Nat) (cI cQ : ClassId) (t1 t2 bs : Nat) (x0 : Int32) (v0 : Int32) (h : fy_fileCell x0 = some v0) : pu_M l yX0_fileCell wsX0_fileCell rm_0_0 [.int x0] (gk_G dC dI cI cQ t1 t2 bs []) v0 := by
  intro sz
  refine Met.ofW (cc := cX0_fileCell) (maxL := 1) (ret := (some .int)) (by decide) rfl ?_
  intro p e s m args below meth c_ s₁ B hml hv
  obtain ⟨rfl, hsz, hG, hP⟩ := hv
  have hx := B.exec
  have hb := B.bytes
  have hr := B.returns
  have hts := atoms_spec (ws := wsX0_fileCell) B.pre
  have hown : s.vm.findClass RX0 = some m.cls := findClass_of_methodNamed B.named
  have hlocks := B.notSynchronized
  have hl := lv_entry ([.int x0]) (n := 1) (Nat.le_of_ble_eq_true rfl)
  rw [lg_entry_eq]
  generalize (lg_sl ([.int x0]) ++ List.replicate (1 - (lg_sl ([.int x0])).length) Slot.unset).toArray = ls at hl ⊢
  have hl : lv_has ls 1 [(0, .int x0)] := hl
  refine nm_Q (fun Q hQ => ?_)
  unfold fy_fileCell at h
  have hf := h
  refine lv_iload_n hx hb dX0_fileCell_0 rfl (lv_at hl 0 rfl) ?_
  refine lv_iconst (v := (-1)) hx hb dX0_fileCell_1 (by decide) ?_
  refine lv_ixor hx hb dX0_fileCell_2 ?_
  obtain rfl := Option.some.inj hf
  rw [hQ]
  exact pu_iret hx hb hr (vp_nar_int _) hsz dX0_fileCell_3 hlocks
set_option maxHeartbeats 4000000 in
set_option maxRecDepth 100000 in
theorem cy_valueAt (l : Launch) (dC : Nat → ClassId) (dI : Nat → Nat → Nat) (cI cQ : ClassId) (t1 t2 bs : Nat) (a0 a1 : Nat) (hg : gd_A bs [a0, a1]) (f : Nat → Int32) (fi : Int32) (wo : Int32) (x1 : Int32) (v0 : Int32) (h : fy_valueAt f x1 = some v0) : pu_M l yX0_valueAt wsX0_valueAt rm_1_21 [.ref a0, .int x1] (gk_G dC dI cI cQ t1 t2 bs (wl_L cI a0 a1 f fi wo)) v0 := by
  intro sz
  refine Met.ofW (cc := cX0_valueAt) (maxL := 2) (ret := (some .int)) (by decide) rfl ?_
  intro p e s m args below meth c_ s₁ B hml hv
  obtain ⟨rfl, hsz, hG, hP⟩ := hv
  have hx := B.exec
  have hb := B.bytes
  have hr := B.returns
  have hts := atoms_spec (ws := wsX0_valueAt) B.pre
  have hown : s.vm.findClass RX0 = some m.cls := findClass_of_methodNamed B.named
  have hlocks := B.notSynchronized
  have hiX0 : ∀ w ∈ u_ws RX0 TX0 3, w ∈ wsX0_valueAt := fun w hw => tw_in (usX0 w hw)
  have hl := lv_entry ([.ref a0, .int x1]) (n := 2) (Nat.le_of_ble_eq_true rfl)
  rw [lg_entry_eq]
  generalize (lg_sl ([.ref a0, .int x1]) ++ List.replicate (2 - (lg_sl ([.ref a0, .int x1])).length) Slot.unset).toArray = ls at hl ⊢
  have hl : lv_has ls 2 [(0, .ref a0), (1, .int x1)] := hl
  refine nm_Q (fun Q hQ => ?_)
  unfold fy_valueAt at h
  have hf := h
  refine lv_aload_n hx hb dX0_valueAt_0 rfl (lv_at hl 0 rfl) ?_
  refine lv_iload_n hx hb dX0_valueAt_1 rfl (lv_at hl 1 rfl) ?_
  obtain ⟨r1, e2, hf⟩ := ob_s hf
  try dsimp only at hf
  refine pu_calli (va_runV (As := [.int x1]) (rest := []) ⟨hx, hb, hml, hown, hts⟩ (cy_kindAt l dC dI cI cQ t1 t2 bs a0 a1 hg f fi wo x1 r1 e2 s.heap.size) (cwV 1 hts (gs_V lk_11 lk_14 lk_15 lk_12 lk_13) rfl rfl rfl (by decide +kernel) ⟨Nat.le_of_ble_eq_true rfl, Nat.le_of_ble_eq_true rfl⟩) (pr_V gk_W (va_recv hG.1 hP (q0 := 0) rfl rfl) ⟨hG, hP⟩) rfl rfl hl.1 rfl (lv_room (Nat.le_of_ble_eq_true rfl)) dX0_valueAt_2 ⟨Nat.zero_le _, Nat.zero_le _⟩) ?_
  refine lv_iconst (v := 1) hx hb dX0_valueAt_5 (by decide) ?_
  refine lv_icmp_ne (tgt := 20) hx hb dX0_valueAt_6 (by decide) (fun hc => ?_) (fun hc => ?_)
  · rw [if_neg hc] at hf
    refine lv_iconst (v := 0) hx hb dX0_valueAt_20 (by decide) ?_
    obtain rfl := Option.some.inj hf
    rw [hQ]
    exact pu_iret hx hb hr (vp_nar_int _) hsz dX0_valueAt_21 hlocks
  · rw [if_pos hc] at hf
    refine lv_aload_n hx hb dX0_valueAt_9 rfl (lv_at hl 0 rfl) ?_
    refine va_get (D := (dC, dI)) (ci := 0) (v := .ref a1) (C := RX0) (T := TX0) (N := 3) hx hb hts hiX0 hown hG.1 hP 0 rfl rfl 0 (by decide) (hts _ (tw_in lk_5)) (fun _ h9 => h9) rfl dX0_valueAt_10 ?_
    refine lv_iload_n hx hb dX0_valueAt_13 rfl (lv_at hl 1 rfl) ?_
    obtain ⟨hq, hf⟩ := ck_s hf
    refine va_iald hx hb hG.1 hP 1 0 rfl rfl hq dX0_valueAt_14 ?_
    refine lv_iconst (v := (-1)) hx hb dX0_valueAt_15 (by decide) ?_
    refine lv_ixor hx hb dX0_valueAt_16 ?_
    refine lv_goto (tgt := 21) hx hb dX0_valueAt_17 (by decide) ?_
    obtain rfl := Option.some.inj hf
    rw [hQ]
    exact pu_iret hx hb hr (vp_nar_int _) hsz dX0_valueAt_21 hlocks
set_option maxHeartbeats 4000000 in
set_option maxRecDepth 100000 in
theorem cy_copyFrom (l : Launch) (dC : Nat → ClassId) (dI : Nat → Nat → Nat) (cI cQ : ClassId) (t1 t2 bs : Nat) (a0 a1 a2 a3 : Nat) (hg : gd_A bs [a0, a1, a2, a3]) (f : Nat → Int32) (fi : Int32) (wo : Int32) (g : Nat → Int32) (gi : Int32) (go : Int32) (v0 : (Nat → Int32) × Int32 × Int32) (h : fy_copyFrom f fi wo g gi go = some v0) : im_V l yX0_copyFrom wsX0_copyFrom rm_1_40 [.ref a0, .ref a2] (gk_G dC dI cI cQ t1 t2 bs (wl_Q cI a0 a1 a2 a3 f fi wo g gi go)) (va_P (dC, dI) vwCl (wl_Q cI a0 a1 a2 a3 v0.1 v0.2.1 v0.2.2 g gi go)) (in_A [a0, a1, a2, a3]) := by
  intro sz
  refine Met.ofW (cc := cX0_copyFrom) (maxL := 2) (ret := none) (by decide) rfl ?_
  intro p e s m args below meth c_ s₁ B hml hv
  obtain ⟨rfl, hsz, hG, hP⟩ := hv
  have hx := B.exec
  have hb := B.bytes
  have hr := B.returns
  have hts := atoms_spec (ws := wsX0_copyFrom) B.pre
  have hown : s.vm.findClass RX0 = some m.cls := findClass_of_methodNamed B.named
  have hlocks := B.notSynchronized
  have hiX0 : ∀ w ∈ u_ws RX0 TX0 3, w ∈ wsX0_copyFrom := fun w hw => tw_in (usX0 w hw)
  have hl := lv_entry ([.ref a0, .ref a2]) (n := 2) (Nat.le_of_ble_eq_true rfl)
  rw [lg_entry_eq]
  generalize (lg_sl ([.ref a0, .ref a2]) ++ List.replicate (2 - (lg_sl ([.ref a0, .ref a2])).length) Slot.unset).toArray = ls at hl ⊢
  have hl : lv_has ls 2 [(0, .ref a0), (1, .ref a2)] := hl
  refine nm_Q (fun Q hQ => ?_)
  unfold fy_copyFrom at h
  have hgo : ∀ (H : Heap) (locs : List Loc), va_P (dC, dI) vwCl (wl_Q cI a0 a1 a2 a3 f fi wo g gi go) H → va_S (in_A [a0, a1, a2, a3]) s.heap H locs → W p l e (headSpec wsX0_copyFrom rm_1_40).room s m ([.ref a0, .ref a2] : List Value).toArray below meth c_ H locs 0 0 Q (F0 m 0 ls []) := by
    intro H locs hP hS
    have hf := h
    refine lv_aload_n hx hb dX0_copyFrom_0 rfl (lv_at hl 1 rfl) ?_
    refine va_get (D := (dC, dI)) (ci := 0) (v := .ref a3) (C := RX0) (T := TX0) (N := 3) hx hb hts hiX0 hown hG.1 hP 2 rfl rfl 0 (by decide) (hts _ (tw_in lk_5)) (fun _ h9 => h9) rfl dX0_copyFrom_1 ?_
    refine lv_iconst (v := 0) hx hb dX0_copyFrom_4 (by decide) ?_
    refine lv_aload_n hx hb dX0_copyFrom_5 rfl (lv_at hl 0 rfl) ?_
    refine va_get (D := (dC, dI)) (ci := 0) (v := .ref a1) (C := RX0) (T := TX0) (N := 3) hx hb hts hiX0 hown hG.1 hP 0 rfl rfl 0 (by decide) (hts _ (tw_in lk_5)) (fun _ h9 => h9) rfl dX0_copyFrom_6 ?_
    refine lv_iconst (v := 0) hx hb dX0_copyFrom_9 (by decide) ?_
    refine lv_aload_n hx hb dX0_copyFrom_10 rfl (lv_at hl 0 rfl) ?_
    refine va_get (D := (dC, dI)) (ci := 0) (v := .ref a1) (C := RX0) (T := TX0) (N := 3) hx hb hts hiX0 hown hG.1 hP 0 rfl rfl 0 (by decide) (hts _ (tw_in lk_5)) (fun _ h9 => h9) rfl dX0_copyFrom_11 ?_
    refine va_alen (v := 781) hx hb hG.1 hP 1 0 rfl rfl rfl dX0_copyFrom_14 ?_
    refine va_copyi hx hb (hml.trans hl.1.symm) hown (hts _ (tw_in lk_115)) (hts _ (tw_in lk_116)) (hts _ (tw_in lk_117)) (hts _ (tw_in lk_118)) hG.1 hP (dd_A hg rfl) hS 3 1 0 0 rfl rfl rfl rfl rfl (sp := 0) (dp := 0) (n := 781) (by decide) (by decide) (by decide) (by decide) (by decide) (fun _ _ => rfl) (Nat.le_of_ble_eq_true rfl) (Nat.le_of_ble_eq_true rfl) dX0_copyFrom_15 (fun H locs hP _ hS => ?_)
    have hP : va_P (dC, dI) vwCl (wl_Q cI a0 a1 a2 a3 (va_cpy g f 0 0 781) fi wo g gi go) H := hP
    refine lv_aload_n hx hb dX0_copyFrom_18 rfl (lv_at hl 0 rfl) ?_
    refine lv_aload_n hx hb dX0_copyFrom_19 rfl (lv_at hl 1 rfl) ?_
    refine va_get (D := (dC, dI)) (ci := 0) (v := .int gi) (C := RX0) (T := TX0) (N := 3) hx hb hts hiX0 hown hG.1 hP 2 rfl rfl 1 (by decide) (hts _ (tw_in lk_16)) (fun _ h9 => h9) rfl dX0_copyFrom_20 ?_
    refine va_put (D := (dC, dI)) (ci := 0) (v := .int gi) (ty := .int) (C := RX0) (T := TX0) (N := 3) hx hb hts hiX0 tyX0 tyX0_ok nmX0 hown hG.1 hP (dd_A hg rfl) hS 0 rfl rfl 1 (by decide) (hts _ (tw_in lk_16)) (fun _ h9 => h9) rfl (by decide +kernel) rfl rfl (Nat.le_of_ble_eq_true rfl) dX0_copyFrom_23 (fun H locs hP _ hS => ?_)
    have hP : va_P (dC, dI) vwCl (wl_Q cI a0 a1 a2 a3 (va_cpy g f 0 0 781) gi wo g gi go) H := hP
    refine lv_aload_n hx hb dX0_copyFrom_26 rfl (lv_at hl 0 rfl) ?_
    refine lv_aload_n hx hb dX0_copyFrom_27 rfl (lv_at hl 1 rfl) ?_
    refine va_get (D := (dC, dI)) (ci := 0) (v := .int go) (C := RX0) (T := TX0) (N := 3) hx hb hts hiX0 hown hG.1 hP 2 rfl rfl 2 (by decide) (hts _ (tw_in lk_23)) (fun _ h9 => h9) rfl dX0_copyFrom_28 ?_
    refine va_put (D := (dC, dI)) (ci := 0) (v := .int go) (ty := .int) (C := RX0) (T := TX0) (N := 3) hx hb hts hiX0 tyX0 tyX0_ok nmX0 hown hG.1 hP (dd_A hg rfl) hS 0 rfl rfl 2 (by decide) (hts _ (tw_in lk_23)) (fun _ h9 => h9) rfl (by decide +kernel) rfl rfl (Nat.le_of_ble_eq_true rfl) dX0_copyFrom_31 (fun H locs hP _ hS => ?_)
    have hP : va_P (dC, dI) vwCl (wl_Q cI a0 a1 a2 a3 (va_cpy g f 0 0 781) gi go g gi go) H := hP
    obtain rfl := Option.some.inj hf
    rw [hQ]
    exact im_vret hx hb hr hS hP dX0_copyFrom_34 hlocks
  exact hgo s.heap [] hP va_S.rf
set_option maxHeartbeats 4000000 in
set_option maxRecDepth 100000 in
theorem cy_clearFrom (l : Launch) (dC : Nat → ClassId) (dI : Nat → Nat → Nat) (cI cQ : ClassId) (t1 t2 bs : Nat) (a0 a1 : Nat) (hg : gd_A bs [a0, a1]) (f : Nat → Int32) (fi : Int32) (wo : Int32) (x1 : Int32) (v0 : (Nat → Int32) × Int32 × Int32) (h : fy_clearFrom f fi wo x1 = some v0) : im_V l yX0_clearFrom wsX0_clearFrom rm_1_22 [.ref a0, .int x1] (gk_G dC dI cI cQ t1 t2 bs (wl_L cI a0 a1 f fi wo)) (va_P (dC, dI) vwCl (wl_L cI a0 a1 v0.1 v0.2.1 v0.2.2)) (in_A [a0, a1]) := by
  intro sz
  refine Met.ofW (cc := cX0_clearFrom) (maxL := 6) (ret := none) (by decide) rfl ?_
  intro p e s m args below meth c_ s₁ B hml hv
  obtain ⟨rfl, hsz, hG, hP⟩ := hv
  have hx := B.exec
  have hb := B.bytes
  have hr := B.returns
  have hts := atoms_spec (ws := wsX0_clearFrom) B.pre
  have hown : s.vm.findClass RX0 = some m.cls := findClass_of_methodNamed B.named
  have hlocks := B.notSynchronized
  have hl := lv_entry ([.ref a0, .int x1]) (n := 6) (Nat.le_of_ble_eq_true rfl)
  rw [lg_entry_eq]
  generalize (lg_sl ([.ref a0, .int x1]) ++ List.replicate (6 - (lg_sl ([.ref a0, .int x1])).length) Slot.unset).toArray = ls at hl ⊢
  have hl : lv_has ls 6 [(0, .ref a0), (1, .int x1)] := hl
  refine nm_Q (fun Q hQ => ?_)
  have B19 : ∀ (k10 : Int32 → Int32 → Int32 → (Nat → Int32) → Int32 → Int32 → Option ((Nat → Int32) × Int32 × Int32)) (hk10 : ∀ (x2 : Int32) (x3 : Int32) (x4 : Int32) (f : Nat → Int32) (fi : Int32) (wo : Int32), ∀ (H : Heap) (locs : List Loc), va_P (dC, dI) vwCl (wl_L cI a0 a1 f fi wo) H → va_S (in_A [a0, a1]) s.heap H locs → ∀ ls : Array Slot, k10 x2 x3 x4 f fi wo = some v0 → lv_has ls 6 [(0, .ref a0), (1, .int x1), (2, .int x2), (3, .int x3), (4, .int x4)] → W p l e (headSpec wsX0_clearFrom rm_1_22).room s m ([.ref a0, .int x1] : List Value).toArray below meth c_ H locs 0 0 Q (F0 m 10 ls [])), ∀ n : Nat, ∀ (x2 : Int32) (x3 : Int32) (x4 : Int32) (x5 : Int32) (f : Nat → Int32) (fi : Int32) (wo : Int32), ∀ (H : Heap) (locs : List Loc), va_P (dC, dI) vwCl (wl_L cI a0 a1 f fi wo) H → va_S (in_A [a0, a1]) s.heap H locs → ∀ ls : Array Slot, fy_clearFrom_19 x1 k10 n x2 x3 x4 x5 f fi wo = some v0 → lv_has ls 6 [(0, .ref a0), (1, .int x1), (2, .int x2), (3, .int x3), (4, .int x4), (5, .int x5)] → W p l e (headSpec wsX0_clearFrom rm_1_22).room s m ([.ref a0, .int x1] : List Value).toArray below meth c_ H locs 0 0 Q (F0 m 19 ls []) := by
    intro k10 hk10
    intro n
    induction n with
    | zero => 
      intro x2 x3 x4 x5 f fi wo H locs hP hS ls hf hl
      exact nomatch (show (none : Option ((Nat → Int32) × Int32 × Int32)) = some v0 from hf)
    | succ n ih =>
      intro x2 x3 x4 x5 f fi wo H locs hP hS ls hf hl
      rw [fy_clearFrom_19.eq_2] at hf
      try dsimp only at hf
      refine lv_iload hx hb dX0_clearFrom_19 (lv_at hl 5 rfl) ?_
      refine lv_iload_n hx hb dX0_clearFrom_21 rfl (lv_at hl 3 rfl) ?_
      refine lv_icmp_gt (tgt := 38) hx hb dX0_clearFrom_22 (by decide) (fun hc => ?_) (fun hc => ?_)
      · rw [if_pos hc] at hf
        refine lv_iload_n hx hb dX0_clearFrom_38 rfl (lv_at hl 2 rfl) ?_
        refine lv_iconst (v := 1) hx hb dX0_clearFrom_39 (by decide) ?_
        obtain ⟨r1, e2, hf⟩ := ob_s hf
        try dsimp only at hf
        refine pu_calli (va_runS (As := [.int x2, .int 1]) (rest := []) ⟨hx, hb, hml, hown, hts⟩ (cp_child l dC dI cI cQ t1 t2 bs x2 1 r1 e2 H.size) (va_cwS 2 hts (gs_S lk_126 lk_3 lk_1 lk_2) rfl rfl rfl (by decide +kernel) ⟨Nat.le_of_ble_eq_true rfl, Nat.le_of_ble_eq_true rfl⟩) (pr_S gk_W ⟨(gk_S hG hS (bb_A hg)), pz_0⟩) rfl rfl hl.1 rfl (lv_room (Nat.le_of_ble_eq_true rfl)) dX0_clearFrom_40 ⟨Nat.zero_le _, Nat.zero_le _⟩) ?_
        refine lv_istore_n (lv' := [(2, .int r1), (0, .ref a0), (1, .int x1), (3, .int x3), (4, .int x4), (5, .int x5)]) hx hb dX0_clearFrom_43 rfl hl (by decide) rfl (fun ls hl => ?_)
        refine lv_iload_n hx hb dX0_clearFrom_44 rfl (lv_at hl 3 rfl) ?_
        refine lv_iconst (v := 5) hx hb dX0_clearFrom_45 (by decide) ?_
        obtain ⟨r3, e4, hf⟩ := ob_s hf
        try dsimp only at hf
        refine pu_calli (va_runS (As := [.int x3, .int 5]) (rest := []) ⟨hx, hb, hml, hown, hts⟩ (cp_child l dC dI cI cQ t1 t2 bs x3 5 r3 e4 H.size) (va_cwS 2 hts (gs_S lk_126 lk_3 lk_1 lk_2) rfl rfl rfl (by decide +kernel) ⟨Nat.le_of_ble_eq_true rfl, Nat.le_of_ble_eq_true rfl⟩) (pr_S gk_W ⟨(gk_S hG hS (bb_A hg)), pz_0⟩) rfl rfl hl.1 rfl (lv_room (Nat.le_of_ble_eq_true rfl)) dX0_clearFrom_46 ⟨Nat.zero_le _, Nat.zero_le _⟩) ?_
        refine lv_istore_n (lv' := [(3, .int r3), (2, .int r1), (0, .ref a0), (1, .int x1), (4, .int x4), (5, .int x5)]) hx hb dX0_clearFrom_49 rfl hl (by decide) rfl (fun ls hl => ?_)
        refine lv_iinc (k := 4) (v := x4 + 1) (lv' := [(4, .int (x4 + 1)), (3, .int r3), (2, .int r1), (0, .ref a0), (1, .int x1), (5, .int x5)]) hx hb dX0_clearFrom_50 hl rfl (by rfl) (by decide) rfl (fun ls hl => ?_)
        refine lv_goto (tgt := 10) hx hb dX0_clearFrom_53 (by decide) ?_
        exact hk10 r1 r3 (x4 + 1) f fi wo H locs hP hS ls hf (lv_sub hl [3, 4, 2, 1, 0] rfl)
      · rw [if_neg hc] at hf
        refine lv_aload_n hx hb dX0_clearFrom_25 rfl (lv_at hl 0 rfl) ?_
        refine lv_iload hx hb dX0_clearFrom_26 (lv_at hl 5 rfl) ?_
        refine lv_iconst (v := 0) hx hb dX0_clearFrom_28 (by decide) ?_
        obtain ⟨r5, e6, hf⟩ := ob_s hf
        try dsimp only at hf
        refine im_callv (va_runV (As := [.int x5, .int 0]) (rest := []) ⟨hx, hb, hml, hown, hts⟩ (cy_set l dC dI cI cQ t1 t2 bs a0 a1 hg f fi wo x5 0 r5 e6 H.size) (cwV 2 hts (gs_V lk_127 lk_26 lk_27 lk_12 lk_25) rfl rfl rfl (by decide +kernel) ⟨Nat.le_of_ble_eq_true rfl, Nat.le_of_ble_eq_true rfl⟩) (pr_V gk_W (va_recv hG.1 hP (q0 := 0) rfl rfl) ⟨(gk_S hG hS (bb_A hg)), hP⟩) rfl rfl hl.1 rfl (lv_room (Nat.le_of_ble_eq_true rfl)) dX0_clearFrom_29 ⟨Nat.zero_le _, Nat.zero_le _⟩) hS (fun _ h => h) (fun H locs hP1 hk1 hS => ?_)
        have hP : va_P (dC, dI) vwCl (wl_L cI a0 a1 r5.1 r5.2.1 r5.2.2) H := hP1
        refine lv_iinc (k := 5) (v := x5 + 1) (lv' := [(5, .int (x5 + 1)), (0, .ref a0), (1, .int x1), (2, .int x2), (3, .int x3), (4, .int x4)]) hx hb dX0_clearFrom_32 hl rfl (by rfl) (by decide) rfl (fun ls hl => ?_)
        refine lv_goto (tgt := 19) hx hb dX0_clearFrom_35 (by decide) ?_
        exact ih x2 x3 x4 (x5 + 1) r5.1 r5.2.1 r5.2.2 H locs hP hS ls hf (lv_sub hl [1, 2, 3, 4, 5, 0] rfl)
  have B10 : ∀ n : Nat, ∀ (x2 : Int32) (x3 : Int32) (x4 : Int32) (f : Nat → Int32) (fi : Int32) (wo : Int32), ∀ (H : Heap) (locs : List Loc), va_P (dC, dI) vwCl (wl_L cI a0 a1 f fi wo) H → va_S (in_A [a0, a1]) s.heap H locs → ∀ ls : Array Slot, fy_clearFrom_10 x1 n x2 x3 x4 f fi wo = some v0 → lv_has ls 6 [(0, .ref a0), (1, .int x1), (2, .int x2), (3, .int x3), (4, .int x4)] → W p l e (headSpec wsX0_clearFrom rm_1_22).room s m ([.ref a0, .int x1] : List Value).toArray below meth c_ H locs 0 0 Q (F0 m 10 ls []) := by
    intro n
    induction n with
    | zero => 
      intro x2 x3 x4 f fi wo H locs hP hS ls hf hl
      exact nomatch (show (none : Option ((Nat → Int32) × Int32 × Int32)) = some v0 from hf)
    | succ n ih =>
      intro x2 x3 x4 f fi wo H locs hP hS ls hf hl
      rw [fy_clearFrom_10.eq_2] at hf
      try dsimp only at hf
      refine lv_iload hx hb dX0_clearFrom_10 (lv_at hl 4 rfl) ?_
      refine lv_iconst (v := 4) hx hb dX0_clearFrom_12 (by decide) ?_
      refine lv_icmp_gt (tgt := 56) hx hb dX0_clearFrom_13 (by decide) (fun hc => ?_) (fun hc => ?_)
      · rw [if_pos hc] at hf
        obtain rfl := Option.some.inj hf
        rw [hQ]
        exact im_vret hx hb hr hS hP dX0_clearFrom_56 hlocks
      · rw [if_neg hc] at hf
        refine lv_iload_n hx hb dX0_clearFrom_16 rfl (lv_at hl 2 rfl) ?_
        refine lv_istore (lv' := [(5, .int x2), (0, .ref a0), (1, .int x1), (2, .int x2), (3, .int x3), (4, .int x4)]) hx hb dX0_clearFrom_17 hl (by decide) rfl (fun ls hl => ?_)
        exact B19 (fy_clearFrom_10 x1 n) ih fu_n x2 x3 x4 x2 f fi wo H locs hP hS ls hf (lv_sub hl [1, 2, 3, 4, 5, 0] rfl)
  unfold fy_clearFrom at h
  have hgo : ∀ (H : Heap) (locs : List Loc), va_P (dC, dI) vwCl (wl_L cI a0 a1 f fi wo) H → va_S (in_A [a0, a1]) s.heap H locs → W p l e (headSpec wsX0_clearFrom rm_1_22).room s m ([.ref a0, .int x1] : List Value).toArray below meth c_ H locs 0 0 Q (F0 m 0 ls []) := by
    intro H locs hP hS
    have hf := h
    refine lv_iload_n hx hb dX0_clearFrom_0 rfl (lv_at hl 1 rfl) ?_
    refine lv_istore_n (lv' := [(2, .int x1), (0, .ref a0), (1, .int x1)]) hx hb dX0_clearFrom_1 rfl hl (by decide) rfl (fun ls hl => ?_)
    refine lv_iload_n hx hb dX0_clearFrom_2 rfl (lv_at hl 2 rfl) ?_
    refine lv_istore_n (lv' := [(3, .int x1), (2, .int x1), (0, .ref a0), (1, .int x1)]) hx hb dX0_clearFrom_3 rfl hl (by decide) rfl (fun ls hl => ?_)
    refine lv_iload_n hx hb dX0_clearFrom_4 rfl (lv_at hl 3 rfl) ?_
    obtain ⟨r7, e8, hf⟩ := ob_s hf
    try dsimp only at hf
    refine pu_calli (va_runS (As := [.int x1]) (rest := []) ⟨hx, hb, hml, hown, hts⟩ (cp_depth l dC dI cI cQ t1 t2 bs x1 r7 e8 H.size) (va_cwS 1 hts (gs_S lk_128 lk_75 lk_1 lk_74) rfl rfl rfl (by decide +kernel) ⟨Nat.le_of_ble_eq_true rfl, Nat.le_of_ble_eq_true rfl⟩) (pr_S gk_W ⟨(gk_S hG hS (bb_A hg)), pz_0⟩) rfl rfl hl.1 rfl (lv_room (Nat.le_of_ble_eq_true rfl)) dX0_clearFrom_5 ⟨Nat.zero_le _, Nat.zero_le _⟩) ?_
    refine lv_istore (lv' := [(4, .int r7), (3, .int x1), (2, .int x1), (0, .ref a0), (1, .int x1)]) hx hb dX0_clearFrom_8 hl (by decide) rfl (fun ls hl => ?_)
    exact B10 fu_n x1 x1 r7 f fi wo H locs hP hS ls hf (lv_sub hl [3, 4, 2, 1, 0] rfl)
  exact hgo s.heap [] hP va_S.rf
set_option maxHeartbeats 4000000 in
set_option maxRecDepth 100000 in
theorem cy_whiteoutCount (l : Launch) (dC : Nat → ClassId) (dI : Nat → Nat → Nat) (cI cQ : ClassId) (t1 t2 bs : Nat) (a0 a1 : Nat) (hg : gd_A bs [a0, a1]) (f : Nat → Int32) (fi : Int32) (wo : Int32) (v0 : Int32) (h : fy_whiteoutCount wo = some v0) : pu_M l yX0_whiteoutCount wsX0_whiteoutCount rm_0_0 [.ref a0] (gk_G dC dI cI cQ t1 t2 bs (wl_L cI a0 a1 f fi wo)) v0 := by
  intro sz
  refine Met.ofW (cc := cX0_whiteoutCount) (maxL := 1) (ret := (some .int)) (by decide) rfl ?_
  intro p e s m args below meth c_ s₁ B hml hv
  obtain ⟨rfl, hsz, hG, hP⟩ := hv
  have hx := B.exec
  have hb := B.bytes
  have hr := B.returns
  have hts := atoms_spec (ws := wsX0_whiteoutCount) B.pre
  have hown : s.vm.findClass RX0 = some m.cls := findClass_of_methodNamed B.named
  have hlocks := B.notSynchronized
  have hiX0 : ∀ w ∈ u_ws RX0 TX0 3, w ∈ wsX0_whiteoutCount := fun w hw => tw_in (usX0 w hw)
  have hl := lv_entry ([.ref a0]) (n := 1) (Nat.le_of_ble_eq_true rfl)
  rw [lg_entry_eq]
  generalize (lg_sl ([.ref a0]) ++ List.replicate (1 - (lg_sl ([.ref a0])).length) Slot.unset).toArray = ls at hl ⊢
  have hl : lv_has ls 1 [(0, .ref a0)] := hl
  refine nm_Q (fun Q hQ => ?_)
  unfold fy_whiteoutCount at h
  have hf := h
  refine lv_aload_n hx hb dX0_whiteoutCount_0 rfl (lv_at hl 0 rfl) ?_
  refine va_get (D := (dC, dI)) (ci := 0) (v := .int wo) (C := RX0) (T := TX0) (N := 3) hx hb hts hiX0 hown hG.1 hP 0 rfl rfl 2 (by decide) (hts _ (tw_in lk_23)) (fun _ h9 => h9) rfl dX0_whiteoutCount_1 ?_
  obtain rfl := Option.some.inj hf
  rw [hQ]
  exact pu_iret hx hb hr (vp_nar_int _) hsz dX0_whiteoutCount_4 hlocks
end
