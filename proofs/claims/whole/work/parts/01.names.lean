/-! names: classes, fields, methods, one list of words for all methods, decode rows: by my own program (wip/gen) out of the Statement and the listing -/
def RX0 : String := "LayeredTree$Layer"
def TX0 : u_T := fun k => match k with
  | 0 => ("LayeredTree$Layer", "cells", "[I", true)
  | 1 => ("LayeredTree$Layer", "filled", "I", false)
  | _ => ("LayeredTree$Layer", "whitedOut", "I", false)
def tyX0 : Nat → FieldType := fun k => match k with
  | 0 => .array .int
  | 1 => .int
  | _ => .int
theorem nmX0 : ∀ a, a < 3 → ∀ b, b < 3 → a ≠ b → (TX0 a).2.1 ≠ (TX0 b).2.1 := by decide +kernel
theorem tyX0_ok : ∀ k, k < 3 → parseFieldDescriptor (TX0 k).2.2.1 = some (tyX0 k) := by decide +kernel
abbrev cX0_init : ByteArray := prog_2_method_1_code
def yX0_init : MethodName := ⟨RX0, "<init>", "()V"⟩
abbrev cX0_fileCell : ByteArray := prog_2_method_2_code
def yX0_fileCell : MethodName := ⟨RX0, "fileCell", "(I)I"⟩
abbrev cX0_kindAt : ByteArray := prog_2_method_3_code
def yX0_kindAt : MethodName := ⟨RX0, "kindAt", "(I)I"⟩
abbrev cX0_valueAt : ByteArray := prog_2_method_4_code
def yX0_valueAt : MethodName := ⟨RX0, "valueAt", "(I)I"⟩
abbrev cX0_canHoldIn : ByteArray := prog_2_method_5_code
def yX0_canHoldIn : MethodName := ⟨RX0, "canHoldIn", "(I)Z"⟩
abbrev cX0_entryCount : ByteArray := prog_2_method_6_code
def yX0_entryCount : MethodName := ⟨RX0, "entryCount", "()I"⟩
abbrev cX0_whiteoutCount : ByteArray := prog_2_method_7_code
def yX0_whiteoutCount : MethodName := ⟨RX0, "whiteoutCount", "()I"⟩
abbrev cX0_set : ByteArray := prog_2_method_8_code
def yX0_set : MethodName := ⟨RX0, "set", "(II)V"⟩
abbrev cX0_clearFrom : ByteArray := prog_2_method_9_code
def yX0_clearFrom : MethodName := ⟨RX0, "clearFrom", "(I)V"⟩
abbrev cX0_copyFrom : ByteArray := prog_2_method_10_code
def yX0_copyFrom : MethodName := ⟨RX0, "copyFrom", "(LLayeredTree$Layer;)V"⟩
def RX1 : String := "LayeredTree$Places"
abbrev cX1_ofPath : ByteArray := prog_3_method_2_code
def yX1_ofPath : MethodName := ⟨RX1, "ofPath", "(I)I"⟩
abbrev cX1_depth : ByteArray := prog_3_method_3_code
def yX1_depth : MethodName := ⟨RX1, "depth", "(I)I"⟩
abbrev cX1_child : ByteArray := prog_3_method_4_code
def yX1_child : MethodName := ⟨RX1, "child", "(II)I"⟩
abbrev cX1_parent : ByteArray := prog_3_method_5_code
def yX1_parent : MethodName := ⟨RX1, "parent", "(I)I"⟩
abbrev cX1_above : ByteArray := prog_3_method_6_code
def yX1_above : MethodName := ⟨RX1, "above", "(II)I"⟩
abbrev cX1_below : ByteArray := prog_3_method_7_code
def yX1_below : MethodName := ⟨RX1, "below", "(II)I"⟩
abbrev cX1_isBelow : ByteArray := prog_3_method_8_code
def yX1_isBelow : MethodName := ⟨RX1, "isBelow", "(II)Z"⟩
def RX2 : String := "LayeredTree"
def TX2 : u_T := fun k => match k with
  | 0 => ("LayeredTree", "top", "I", true)
  | 1 => ("LayeredTree", "layers", "[LLayeredTree$Layer;", true)
  | 2 => ("LayeredTree", "upper", "LLayeredTree$Layer;", true)
  | 3 => ("LayeredTree", "mounted", "Z", false)
  | 4 => ("LayeredTree", "copyUps", "I", false)
  | 5 => ("LayeredTree", "keptUpper", "LLayeredTree$Layer;", true)
  | 6 => ("LayeredTree", "keptCopyUps", "I", false)
  | _ => ("LayeredTree", "noted", "[I", true)
def tyX2 : Nat → FieldType := fun k => match k with
  | 0 => .int
  | 1 => .array (.object "LayeredTree$Layer")
  | 2 => .object "LayeredTree$Layer"
  | 3 => .boolean
  | 4 => .int
  | 5 => .object "LayeredTree$Layer"
  | 6 => .int
  | _ => .array .int
theorem nmX2 : ∀ a, a < 8 → ∀ b, b < 8 → a ≠ b → (TX2 a).2.1 ≠ (TX2 b).2.1 := by decide +kernel
theorem tyX2_ok : ∀ k, k < 8 → parseFieldDescriptor (TX2 k).2.2.1 = some (tyX2 k) := by decide +kernel
abbrev cX2_init : ByteArray := prog_1_method_1_code
def yX2_init : MethodName := ⟨RX2, "<init>", "(I)V"⟩
abbrev cX2_put : ByteArray := prog_1_method_2_code
def yX2_put : MethodName := ⟨RX2, "put", "(IIII)Z"⟩
abbrev cX2_mount : ByteArray := prog_1_method_3_code
def yX2_mount : MethodName := ⟨RX2, "mount", "()Z"⟩
abbrev cX2_kind : ByteArray := prog_1_method_4_code
def yX2_kind : MethodName := ⟨RX2, "kind", "(I)I"⟩
abbrev cX2_read : ByteArray := prog_1_method_5_code
def yX2_read : MethodName := ⟨RX2, "read", "(I)I"⟩
abbrev cX2_size : ByteArray := prog_1_method_6_code
def yX2_size : MethodName := ⟨RX2, "size", "(I)I"⟩
abbrev cX2_name : ByteArray := prog_1_method_7_code
def yX2_name : MethodName := ⟨RX2, "name", "(II)I"⟩
abbrev cX2_objects : ByteArray := prog_1_method_8_code
def yX2_objects : MethodName := ⟨RX2, "objects", "()I"⟩
abbrev cX2_origin : ByteArray := prog_1_method_9_code
def yX2_origin : MethodName := ⟨RX2, "origin", "(I)I"⟩
abbrev cX2_makeDir : ByteArray := prog_1_method_10_code
def yX2_makeDir : MethodName := ⟨RX2, "makeDir", "(I)I"⟩
abbrev cX2_write : ByteArray := prog_1_method_11_code
def yX2_write : MethodName := ⟨RX2, "write", "(II)I"⟩
abbrev cX2_remove : ByteArray := prog_1_method_12_code
def yX2_remove : MethodName := ⟨RX2, "remove", "(I)I"⟩
abbrev cX2_rename : ByteArray := prog_1_method_13_code
def yX2_rename : MethodName := ⟨RX2, "rename", "(II)I"⟩
abbrev cX2_entry : ByteArray := prog_1_method_14_code
def yX2_entry : MethodName := ⟨RX2, "entry", "(II)I"⟩
abbrev cX2_entryValue : ByteArray := prog_1_method_15_code
def yX2_entryValue : MethodName := ⟨RX2, "entryValue", "(II)I"⟩
abbrev cX2_entries : ByteArray := prog_1_method_16_code
def yX2_entries : MethodName := ⟨RX2, "entries", "(I)I"⟩
abbrev cX2_whiteouts : ByteArray := prog_1_method_17_code
def yX2_whiteouts : MethodName := ⟨RX2, "whiteouts", "()I"⟩
abbrev cX2_copies : ByteArray := prog_1_method_18_code
def yX2_copies : MethodName := ⟨RX2, "copies", "()I"⟩
abbrev cX2_placeOrRefusal : ByteArray := prog_1_method_19_code
def yX2_placeOrRefusal : MethodName := ⟨RX2, "placeOrRefusal", "(I)I"⟩
abbrev cX2_objectPlaceOrRefusal : ByteArray := prog_1_method_20_code
def yX2_objectPlaceOrRefusal : MethodName := ⟨RX2, "objectPlaceOrRefusal", "(I)I"⟩
abbrev cX2_directoryPlaceOrRefusal : ByteArray := prog_1_method_21_code
def yX2_directoryPlaceOrRefusal : MethodName := ⟨RX2, "directoryPlaceOrRefusal", "(I)I"⟩
abbrev cX2_isLayer : ByteArray := prog_1_method_22_code
def yX2_isLayer : MethodName := ⟨RX2, "isLayer", "(I)Z"⟩
abbrev cX2_hasRoomIn : ByteArray := prog_1_method_23_code
def yX2_hasRoomIn : MethodName := ⟨RX2, "hasRoomIn", "(I)Z"⟩
abbrev cX2_isDirectory : ByteArray := prog_1_method_24_code
def yX2_isDirectory : MethodName := ⟨RX2, "isDirectory", "(I)Z"⟩
abbrev cX2_isFile : ByteArray := prog_1_method_25_code
def yX2_isFile : MethodName := ⟨RX2, "isFile", "(I)Z"⟩
abbrev cX2_foundFile : ByteArray := prog_1_method_26_code
def yX2_foundFile : MethodName := ⟨RX2, "foundFile", "(I)I"⟩
abbrev cX2_layerOfFile : ByteArray := prog_1_method_27_code
def yX2_layerOfFile : MethodName := ⟨RX2, "layerOfFile", "(I)I"⟩
abbrev cX2_originOf : ByteArray := prog_1_method_28_code
def yX2_originOf : MethodName := ⟨RX2, "originOf", "(I)I"⟩
abbrev cX2_isPart : ByteArray := prog_1_method_29_code
def yX2_isPart : MethodName := ⟨RX2, "isPart", "(II)Z"⟩
abbrev cX2_partOf : ByteArray := prog_1_method_30_code
def yX2_partOf : MethodName := ⟨RX2, "partOf", "(I)I"⟩
abbrev cX2_allParts : ByteArray := prog_1_method_31_code
def yX2_allParts : MethodName := ⟨RX2, "allParts", "()I"⟩
abbrev cX2_find : ByteArray := prog_1_method_32_code
def yX2_find : MethodName := ⟨RX2, "find", "(I)I"⟩
abbrev cX2_findAmong : ByteArray := prog_1_method_33_code
def yX2_findAmong : MethodName := ⟨RX2, "findAmong", "(II)I"⟩
abbrev cX2_isCovered : ByteArray := prog_1_method_34_code
def yX2_isCovered : MethodName := ⟨RX2, "isCovered", "(I)Z"⟩
abbrev cX2_countIn : ByteArray := prog_1_method_35_code
def yX2_countIn : MethodName := ⟨RX2, "countIn", "(II)I"⟩
abbrev cX2_countBelow : ByteArray := prog_1_method_36_code
def yX2_countBelow : MethodName := ⟨RX2, "countBelow", "(II)I"⟩
abbrev cX2_isFilledDirectory : ByteArray := prog_1_method_37_code
def yX2_isFilledDirectory : MethodName := ⟨RX2, "isFilledDirectory", "(II)Z"⟩
abbrev cX2_keepUpper : ByteArray := prog_1_method_38_code
def yX2_keepUpper : MethodName := ⟨RX2, "keepUpper", "()V"⟩
abbrev cX2_settle : ByteArray := prog_1_method_39_code
def yX2_settle : MethodName := ⟨RX2, "settle", "()I"⟩
abbrev cX2_raise : ByteArray := prog_1_method_40_code
def yX2_raise : MethodName := ⟨RX2, "raise", "(I)V"⟩
abbrev cX2_makeAt : ByteArray := prog_1_method_41_code
def yX2_makeAt : MethodName := ⟨RX2, "makeAt", "(II)V"⟩
abbrev cX2_unmakeAt : ByteArray := prog_1_method_42_code
def yX2_unmakeAt : MethodName := ⟨RX2, "unmakeAt", "(I)V"⟩
abbrev cX2_refusalOfTarget : ByteArray := prog_1_method_43_code
def yX2_refusalOfTarget : MethodName := ⟨RX2, "refusalOfTarget", "(II)I"⟩
abbrev cX2_noteFrom : ByteArray := prog_1_method_44_code
def yX2_noteFrom : MethodName := ⟨RX2, "noteFrom", "(I)V"⟩
abbrev cX2_cellOfObject : ByteArray := prog_1_method_45_code
def yX2_cellOfObject : MethodName := ⟨RX2, "cellOfObject", "(I)I"⟩
abbrev cX2_depthOfNoted : ByteArray := prog_1_method_46_code
def yX2_depthOfNoted : MethodName := ⟨RX2, "depthOfNoted", "()I"⟩
abbrev cX2_makeNotedAt : ByteArray := prog_1_method_47_code
def yX2_makeNotedAt : MethodName := ⟨RX2, "makeNotedAt", "(I)V"⟩
def RX3 : String := "LayeredTreeModel"
def TX3 : u_T := fun k => match k with
  | 0 => ("LayeredTreeModel", "top", "I", true)
  | 1 => ("LayeredTreeModel", "mounted", "Z", false)
  | 2 => ("LayeredTreeModel", "copyUps", "I", false)
  | 3 => ("LayeredTreeModel", "kinds", "[I", true)
  | 4 => ("LayeredTreeModel", "values", "[I", true)
  | 5 => ("LayeredTreeModel", "oldKinds", "[I", true)
  | 6 => ("LayeredTreeModel", "oldValues", "[I", true)
  | 7 => ("LayeredTreeModel", "found", "I", false)
  | 8 => ("LayeredTreeModel", "parts", "I", false)
  | 9 => ("LayeredTreeModel", "first", "I", false)
  | 10 => ("LayeredTreeModel", "value", "I", false)
  | 11 => ("LayeredTreeModel", "noted", "[I", true)
  | 12 => ("LayeredTreeModel", "notedKind", "[I", true)
  | 13 => ("LayeredTreeModel", "notedValue", "[I", true)
  | _ => ("LayeredTreeModel", "notes", "I", false)
def tyX3 : Nat → FieldType := fun k => match k with
  | 0 => .int
  | 1 => .boolean
  | 2 => .int
  | 3 => .array .int
  | 4 => .array .int
  | 5 => .array .int
  | 6 => .array .int
  | 7 => .int
  | 8 => .int
  | 9 => .int
  | 10 => .int
  | 11 => .array .int
  | 12 => .array .int
  | 13 => .array .int
  | _ => .int
theorem nmX3 : ∀ a, a < 15 → ∀ b, b < 15 → a ≠ b → (TX3 a).2.1 ≠ (TX3 b).2.1 := by decide +kernel
theorem tyX3_ok : ∀ k, k < 15 → parseFieldDescriptor (TX3 k).2.2.1 = some (tyX3 k) := by decide +kernel
abbrev cX3_init : ByteArray := prog_5_method_1_code
def yX3_init : MethodName := ⟨RX3, "<init>", "(I)V"⟩
abbrev cX3_placeOf : ByteArray := prog_5_method_2_code
def yX3_placeOf : MethodName := ⟨RX3, "placeOf", "(I)I"⟩
abbrev cX3_depth : ByteArray := prog_5_method_3_code
def yX3_depth : MethodName := ⟨RX3, "depth", "(I)I"⟩
abbrev cX3_without : ByteArray := prog_5_method_4_code
def yX3_without : MethodName := ⟨RX3, "without", "(II)I"⟩
abbrev cX3_isPath : ByteArray := prog_5_method_5_code
def yX3_isPath : MethodName := ⟨RX3, "isPath", "(I)Z"⟩
abbrev cX3_isBelow : ByteArray := prog_5_method_6_code
def yX3_isBelow : MethodName := ⟨RX3, "isBelow", "(II)Z"⟩
abbrev cX3_resolve : ByteArray := prog_5_method_7_code
def yX3_resolve : MethodName := ⟨RX3, "resolve", "(III)V"⟩
abbrev cX3_look : ByteArray := prog_5_method_8_code
def yX3_look : MethodName := ⟨RX3, "look", "(I)V"⟩
abbrev cX3_isCovered : ByteArray := prog_5_method_9_code
def yX3_isCovered : MethodName := ⟨RX3, "isCovered", "(I)Z"⟩
abbrev cX3_children : ByteArray := prog_5_method_10_code
def yX3_children : MethodName := ⟨RX3, "children", "(I)I"⟩
abbrev cX3_upper : ByteArray := prog_5_method_11_code
def yX3_upper : MethodName := ⟨RX3, "upper", "(I)I"⟩
abbrev cX3_set : ByteArray := prog_5_method_12_code
def yX3_set : MethodName := ⟨RX3, "set", "(III)V"⟩
abbrev cX3_raise : ByteArray := prog_5_method_13_code
def yX3_raise : MethodName := ⟨RX3, "raise", "(I)V"⟩
abbrev cX3_strip : ByteArray := prog_5_method_14_code
def yX3_strip : MethodName := ⟨RX3, "strip", "(I)V"⟩
abbrev cX3_make : ByteArray := prog_5_method_15_code
def yX3_make : MethodName := ⟨RX3, "make", "(III)V"⟩
abbrev cX3_unmake : ByteArray := prog_5_method_16_code
def yX3_unmake : MethodName := ⟨RX3, "unmake", "(I)V"⟩
abbrev cX3_keep : ByteArray := prog_5_method_17_code
def yX3_keep : MethodName := ⟨RX3, "keep", "()V"⟩
abbrev cX3_end : ByteArray := prog_5_method_18_code
def yX3_end : MethodName := ⟨RX3, "end", "(I)I"⟩
abbrev cX3_isLayer : ByteArray := prog_5_method_19_code
def yX3_isLayer : MethodName := ⟨RX3, "isLayer", "(I)Z"⟩
abbrev cX3_entries : ByteArray := prog_5_method_20_code
def yX3_entries : MethodName := ⟨RX3, "entries", "(I)I"⟩
abbrev cX3_room : ByteArray := prog_5_method_21_code
def yX3_room : MethodName := ⟨RX3, "room", "(I)Z"⟩
abbrev cX3_put : ByteArray := prog_5_method_22_code
def yX3_put : MethodName := ⟨RX3, "put", "(IIII)Z"⟩
abbrev cX3_mount : ByteArray := prog_5_method_23_code
def yX3_mount : MethodName := ⟨RX3, "mount", "()Z"⟩
abbrev cX3_entry : ByteArray := prog_5_method_24_code
def yX3_entry : MethodName := ⟨RX3, "entry", "(II)I"⟩
abbrev cX3_entryValue : ByteArray := prog_5_method_25_code
def yX3_entryValue : MethodName := ⟨RX3, "entryValue", "(II)I"⟩
abbrev cX3_whiteouts : ByteArray := prog_5_method_26_code
def yX3_whiteouts : MethodName := ⟨RX3, "whiteouts", "()I"⟩
abbrev cX3_copies : ByteArray := prog_5_method_27_code
def yX3_copies : MethodName := ⟨RX3, "copies", "()I"⟩
abbrev cX3_kind : ByteArray := prog_5_method_28_code
def yX3_kind : MethodName := ⟨RX3, "kind", "(I)I"⟩
abbrev cX3_read : ByteArray := prog_5_method_29_code
def yX3_read : MethodName := ⟨RX3, "read", "(I)I"⟩
abbrev cX3_size : ByteArray := prog_5_method_30_code
def yX3_size : MethodName := ⟨RX3, "size", "(I)I"⟩
abbrev cX3_name : ByteArray := prog_5_method_31_code
def yX3_name : MethodName := ⟨RX3, "name", "(II)I"⟩
abbrev cX3_objects : ByteArray := prog_5_method_32_code
def yX3_objects : MethodName := ⟨RX3, "objects", "()I"⟩
abbrev cX3_origin : ByteArray := prog_5_method_33_code
def yX3_origin : MethodName := ⟨RX3, "origin", "(I)I"⟩
abbrev cX3_target : ByteArray := prog_5_method_34_code
def yX3_target : MethodName := ⟨RX3, "target", "(I)I"⟩
abbrev cX3_isDirectory : ByteArray := prog_5_method_35_code
def yX3_isDirectory : MethodName := ⟨RX3, "isDirectory", "(I)Z"⟩
abbrev cX3_makeDir : ByteArray := prog_5_method_36_code
def yX3_makeDir : MethodName := ⟨RX3, "makeDir", "(I)I"⟩
abbrev cX3_write : ByteArray := prog_5_method_37_code
def yX3_write : MethodName := ⟨RX3, "write", "(II)I"⟩
abbrev cX3_remove : ByteArray := prog_5_method_38_code
def yX3_remove : MethodName := ⟨RX3, "remove", "(I)I"⟩
abbrev cX3_note : ByteArray := prog_5_method_39_code
def yX3_note : MethodName := ⟨RX3, "note", "(I)I"⟩
abbrev cX3_rename : ByteArray := prog_5_method_40_code
def yX3_rename : MethodName := ⟨RX3, "rename", "(II)I"⟩
abbrev vwCl : List vw_C := [(RX0, TX0, 3), (RX2, TX2, 8), (RX3, TX3, 15)]
def tb_g : List Cond := lw_tbl.filter goodWord
theorem tb_in {w : Cond} (i : Nat) (h : lw_tbl[i]? = some w) (hg : goodWord w = true) : w ∈ tb_g := List.mem_filter.mpr ⟨List.mem_of_getElem? h, hg⟩
theorem tw_in {w c : Cond} (h : w ∈ tb_g) : w ∈ c :: tb_g := List.mem_cons_of_mem _ h
theorem gs_A {c w : Cond} (h : w ∈ tb_g) : GoodIn (c :: tb_g) (w :: tb_g) := fun x hx => by
  have hm : x ∈ tb_g := by
    rcases List.mem_cons.mp hx with e | e
    · rw [e]; exact h
    · exact e
  exact ⟨tw_in hm, good_of_word (List.mem_filter.mp hm).2⟩
theorem gs_1 {c w : Cond} (h : w ∈ tb_g) : ∀ x ∈ [w], x ∈ c :: tb_g ∧ ((x.onTables && x.keeps) = true ∨ ∃ ty, x = .arrayClass ty) := fun x hx => by
  rw [List.mem_singleton.mp hx]
  exact ⟨tw_in h, good_of_word (List.mem_filter.mp h).2⟩
theorem gs_S {c w : Cond} {own : String} {idx : Nat} {y : MethodName} (h1 : Cond.methodLink own idx y ∈ tb_g) (h2 : Cond.static y ∈ tb_g) (h3 : Cond.initialized y.cls ∈ tb_g) (h : w ∈ tb_g) : GoodIn (c :: tb_g) (va_wsS own idx y (w :: tb_g)) := fun x hx => by
  rcases List.mem_append.mp (show x ∈ [Cond.methodLink own idx y] ++ ([Cond.static y] ++ ([Cond.initialized y.cls] ++ (w :: tb_g))) from hx) with e | e
  · exact gs_1 h1 x e
  · rcases List.mem_append.mp e with e | e
    · exact gs_1 h2 x e
    · rcases List.mem_append.mp e with e | e
      · exact gs_1 h3 x e
      · exact gs_A h x e
theorem gs_V {c w : Cond} {own C : String} {idx : Nat} {y : MethodName} (h1 : Cond.methodLink own idx y ∈ tb_g) (h2 : Cond.instanceMethod y ∈ tb_g) (h3 : Cond.selects C y y ∈ tb_g) (h4 : Cond.initialized C ∈ tb_g) (h : w ∈ tb_g) : GoodIn (c :: tb_g) (wsV own idx C y (w :: tb_g)) := fun x hx => by
  rcases List.mem_append.mp (show x ∈ [Cond.methodLink own idx y] ++ ([Cond.instanceMethod y] ++ ([Cond.selects C y y] ++ ([Cond.initialized C] ++ (w :: tb_g)))) from hx) with e | e
  · exact gs_1 h1 x e
  · rcases List.mem_append.mp e with e | e
    · exact gs_1 h2 x e
    · rcases List.mem_append.mp e with e | e
      · exact gs_1 h3 x e
      · rcases List.mem_append.mp e with e | e
        · exact gs_1 h4 x e
        · exact gs_A h x e
theorem lk_0 : Cond.methodLink RX1 9 yX1_child ∈ tb_g := tb_in 111 (by decide +kernel) (by decide +kernel)
theorem lk_1 : Cond.initialized RX1 ∈ tb_g := tb_in 45 (by decide +kernel) (by decide +kernel)
set_option maxRecDepth 100000 in
theorem lk_2 : Cond.code yX1_child cX1_child 2 (some .int) ∈ tb_g := tb_in 113 rfl (by decide +kernel)
theorem lk_3 : Cond.static yX1_child ∈ tb_g := tb_in 112 (by decide +kernel) (by decide +kernel)
theorem lk_4 : Cond.fieldLink RX2 18 "LayeredTree" "top" "I" ∈ tb_g := tb_in 79 (by decide +kernel) (by decide +kernel)
theorem lk_5 : Cond.fieldLink RX0 11 "LayeredTree$Layer" "cells" "[I" ∈ tb_g := tb_in 68 (by decide +kernel) (by decide +kernel)
theorem lk_6 : Cond.fieldLink RX1 13 "LayeredTree$Places" "FIRST_OF_DEPTH" "[I" ∈ tb_g := tb_in 128 (by decide +kernel) (by decide +kernel)
theorem lk_7 : Cond.fieldLink RX1 20 "LayeredTree$Places" "NUMBER_OF_DEPTH" "[I" ∈ tb_g := tb_in 130 (by decide +kernel) (by decide +kernel)
theorem lk_8 : Cond.methodLink RX1 17 yX1_above ∈ tb_g := tb_in 125 (by decide +kernel) (by decide +kernel)
set_option maxRecDepth 100000 in
theorem lk_9 : Cond.code yX1_above cX1_above 2 (some .int) ∈ tb_g := tb_in 127 rfl (by decide +kernel)
theorem lk_10 : Cond.static yX1_above ∈ tb_g := tb_in 126 (by decide +kernel) (by decide +kernel)
theorem lk_11 : Cond.methodLink RX0 17 yX0_kindAt ∈ tb_g := tb_in 136 (by decide +kernel) (by decide +kernel)
theorem lk_12 : Cond.initialized RX0 ∈ tb_g := tb_in 43 (by decide +kernel) (by decide +kernel)
set_option maxRecDepth 100000 in
theorem lk_13 : Cond.code yX0_kindAt cX0_kindAt 2 (some .int) ∈ tb_g := tb_in 121 rfl (by decide +kernel)
theorem lk_14 : Cond.instanceMethod yX0_kindAt ∈ tb_g := tb_in 119 (by decide +kernel) (by decide +kernel)
theorem lk_15 : Cond.selects RX0 yX0_kindAt yX0_kindAt ∈ tb_g := tb_in 120 (by decide +kernel) (by decide +kernel)
theorem lk_16 : Cond.fieldLink RX0 21 "LayeredTree$Layer" "filled" "I" ∈ tb_g := tb_in 69 (by decide +kernel) (by decide +kernel)
theorem lk_17 : Cond.fieldLink RX2 24 "LayeredTree" "layers" "[LLayeredTree$Layer;" ∈ tb_g := tb_in 80 (by decide +kernel) (by decide +kernel)
theorem lk_18 : Cond.methodLink RX2 148 yX0_entryCount ∈ tb_g := tb_in 141 (by decide +kernel) (by decide +kernel)
set_option maxRecDepth 100000 in
theorem lk_19 : Cond.code yX0_entryCount cX0_entryCount 1 (some .int) ∈ tb_g := tb_in 144 rfl (by decide +kernel)
theorem lk_20 : Cond.instanceMethod yX0_entryCount ∈ tb_g := tb_in 142 (by decide +kernel) (by decide +kernel)
theorem lk_21 : Cond.selects RX0 yX0_entryCount yX0_entryCount ∈ tb_g := tb_in 143 (by decide +kernel) (by decide +kernel)
theorem lk_22 : Cond.fieldLink RX2 29 "LayeredTree" "upper" "LLayeredTree$Layer;" ∈ tb_g := tb_in 81 (by decide +kernel) (by decide +kernel)
theorem lk_23 : Cond.fieldLink RX0 25 "LayeredTree$Layer" "whitedOut" "I" ∈ tb_g := tb_in 70 (by decide +kernel) (by decide +kernel)
theorem lk_24 : Cond.methodLink RX2 69 yX0_set ∈ tb_g := tb_in 148 (by decide +kernel) (by decide +kernel)
set_option maxRecDepth 100000 in
theorem lk_25 : Cond.code yX0_set cX0_set 3 none ∈ tb_g := tb_in 151 rfl (by decide +kernel)
theorem lk_26 : Cond.instanceMethod yX0_set ∈ tb_g := tb_in 149 (by decide +kernel) (by decide +kernel)
theorem lk_27 : Cond.selects RX0 yX0_set yX0_set ∈ tb_g := tb_in 150 (by decide +kernel) (by decide +kernel)
theorem lk_28 : Cond.methodLink RX2 54 yX0_kindAt ∈ tb_g := tb_in 118 (by decide +kernel) (by decide +kernel)
theorem lk_29 : Cond.methodLink RX2 57 yX1_parent ∈ tb_g := tb_in 122 (by decide +kernel) (by decide +kernel)
set_option maxRecDepth 100000 in
theorem lk_30 : Cond.code yX1_parent cX1_parent 1 (some .int) ∈ tb_g := tb_in 124 rfl (by decide +kernel)
theorem lk_31 : Cond.static yX1_parent ∈ tb_g := tb_in 123 (by decide +kernel) (by decide +kernel)
theorem lk_32 : Cond.methodLink RX2 60 yX0_canHoldIn ∈ tb_g := tb_in 132 (by decide +kernel) (by decide +kernel)
set_option maxRecDepth 100000 in
theorem lk_33 : Cond.code yX0_canHoldIn cX0_canHoldIn 2 (some .boolean) ∈ tb_g := tb_in 135 rfl (by decide +kernel)
theorem lk_34 : Cond.instanceMethod yX0_canHoldIn ∈ tb_g := tb_in 133 (by decide +kernel) (by decide +kernel)
theorem lk_35 : Cond.selects RX0 yX0_canHoldIn yX0_canHoldIn ∈ tb_g := tb_in 134 (by decide +kernel) (by decide +kernel)
theorem lk_36 : Cond.methodLink RX2 63 yX2_hasRoomIn ∈ tb_g := tb_in 137 (by decide +kernel) (by decide +kernel)
theorem lk_37 : Cond.initialized RX2 ∈ tb_g := tb_in 41 (by decide +kernel) (by decide +kernel)
set_option maxRecDepth 100000 in
theorem lk_38 : Cond.code yX2_hasRoomIn cX2_hasRoomIn 4 (some .boolean) ∈ tb_g := tb_in 140 rfl (by decide +kernel)
theorem lk_39 : Cond.instanceMethod yX2_hasRoomIn ∈ tb_g := tb_in 139 (by decide +kernel) (by decide +kernel)
theorem lk_40 : Cond.selects RX2 yX2_hasRoomIn yX2_hasRoomIn ∈ tb_g := tb_in 1 (by decide +kernel) (by decide +kernel)
theorem lk_41 : Cond.methodLink RX2 66 yX0_fileCell ∈ tb_g := tb_in 145 (by decide +kernel) (by decide +kernel)
set_option maxRecDepth 100000 in
theorem lk_42 : Cond.code yX0_fileCell cX0_fileCell 1 (some .int) ∈ tb_g := tb_in 147 rfl (by decide +kernel)
theorem lk_43 : Cond.static yX0_fileCell ∈ tb_g := tb_in 146 (by decide +kernel) (by decide +kernel)
theorem lk_44 : Cond.methodLink RX2 42 yX1_ofPath ∈ tb_g := tb_in 108 (by decide +kernel) (by decide +kernel)
set_option maxRecDepth 100000 in
theorem lk_45 : Cond.code yX1_ofPath cX1_ofPath 4 (some .int) ∈ tb_g := tb_in 110 rfl (by decide +kernel)
theorem lk_46 : Cond.static yX1_ofPath ∈ tb_g := tb_in 109 (by decide +kernel) (by decide +kernel)
theorem lk_47 : Cond.fieldLink RX2 46 "LayeredTree" "mounted" "Z" ∈ tb_g := tb_in 82 (by decide +kernel) (by decide +kernel)
theorem lk_48 : Cond.methodLink RX2 50 yX2_isLayer ∈ tb_g := tb_in 114 (by decide +kernel) (by decide +kernel)
set_option maxRecDepth 100000 in
theorem lk_49 : Cond.code yX2_isLayer cX2_isLayer 2 (some .boolean) ∈ tb_g := tb_in 117 rfl (by decide +kernel)
theorem lk_50 : Cond.instanceMethod yX2_isLayer ∈ tb_g := tb_in 116 (by decide +kernel) (by decide +kernel)
theorem lk_51 : Cond.selects RX2 yX2_isLayer yX2_isLayer ∈ tb_g := tb_in 0 (by decide +kernel) (by decide +kernel)
theorem lk_52 : Cond.methodLink RX2 157 yX2_partOf ∈ tb_g := tb_in 172 (by decide +kernel) (by decide +kernel)
set_option maxRecDepth 100000 in
theorem lk_53 : Cond.code yX2_partOf cX2_partOf 1 (some .int) ∈ tb_g := tb_in 174 rfl (by decide +kernel)
theorem lk_54 : Cond.static yX2_partOf ∈ tb_g := tb_in 173 (by decide +kernel) (by decide +kernel)
theorem lk_55 : Cond.methodLink RX2 154 yX2_isPart ∈ tb_g := tb_in 186 (by decide +kernel) (by decide +kernel)
set_option maxRecDepth 100000 in
theorem lk_56 : Cond.code yX2_isPart cX2_isPart 2 (some .boolean) ∈ tb_g := tb_in 188 rfl (by decide +kernel)
theorem lk_57 : Cond.static yX2_isPart ∈ tb_g := tb_in 187 (by decide +kernel) (by decide +kernel)
theorem lk_58 : Cond.methodLink RX2 166 yX2_foundFile ∈ tb_g := tb_in 189 (by decide +kernel) (by decide +kernel)
set_option maxRecDepth 100000 in
theorem lk_59 : Cond.code yX2_foundFile cX2_foundFile 1 (some .int) ∈ tb_g := tb_in 191 rfl (by decide +kernel)
theorem lk_60 : Cond.static yX2_foundFile ∈ tb_g := tb_in 190 (by decide +kernel) (by decide +kernel)
theorem lk_61 : Cond.methodLink RX2 109 yX2_isDirectory ∈ tb_g := tb_in 178 (by decide +kernel) (by decide +kernel)
set_option maxRecDepth 100000 in
theorem lk_62 : Cond.code yX2_isDirectory cX2_isDirectory 1 (some .boolean) ∈ tb_g := tb_in 180 rfl (by decide +kernel)
theorem lk_63 : Cond.static yX2_isDirectory ∈ tb_g := tb_in 179 (by decide +kernel) (by decide +kernel)
theorem lk_64 : Cond.methodLink RX2 163 yX1_above ∈ tb_g := tb_in 181 (by decide +kernel) (by decide +kernel)
theorem lk_65 : Cond.methodLink RX2 97 yX2_findAmong ∈ tb_g := tb_in 182 (by decide +kernel) (by decide +kernel)
set_option maxRecDepth 100000 in
theorem lk_66 : Cond.code yX2_findAmong cX2_findAmong 6 (some .int) ∈ tb_g := tb_in 185 rfl (by decide +kernel)
theorem lk_67 : Cond.instanceMethod yX2_findAmong ∈ tb_g := tb_in 184 (by decide +kernel) (by decide +kernel)
theorem lk_68 : Cond.selects RX2 yX2_findAmong yX2_findAmong ∈ tb_g := tb_in 5 (by decide +kernel) (by decide +kernel)
theorem lk_69 : Cond.methodLink RX2 160 yX2_allParts ∈ tb_g := tb_in 168 (by decide +kernel) (by decide +kernel)
set_option maxRecDepth 100000 in
theorem lk_70 : Cond.code yX2_allParts cX2_allParts 1 (some .int) ∈ tb_g := tb_in 171 rfl (by decide +kernel)
theorem lk_71 : Cond.instanceMethod yX2_allParts ∈ tb_g := tb_in 170 (by decide +kernel) (by decide +kernel)
theorem lk_72 : Cond.selects RX2 yX2_allParts yX2_allParts ∈ tb_g := tb_in 4 (by decide +kernel) (by decide +kernel)
theorem lk_73 : Cond.methodLink RX2 139 yX1_depth ∈ tb_g := tb_in 175 (by decide +kernel) (by decide +kernel)
set_option maxRecDepth 100000 in
theorem lk_74 : Cond.code yX1_depth cX1_depth 2 (some .int) ∈ tb_g := tb_in 177 rfl (by decide +kernel)
theorem lk_75 : Cond.static yX1_depth ∈ tb_g := tb_in 176 (by decide +kernel) (by decide +kernel)
theorem lk_76 : Cond.methodLink RX2 73 yX2_placeOrRefusal ∈ tb_g := tb_in 160 (by decide +kernel) (by decide +kernel)
set_option maxRecDepth 100000 in
theorem lk_77 : Cond.code yX2_placeOrRefusal cX2_placeOrRefusal 3 (some .int) ∈ tb_g := tb_in 163 rfl (by decide +kernel)
theorem lk_78 : Cond.instanceMethod yX2_placeOrRefusal ∈ tb_g := tb_in 162 (by decide +kernel) (by decide +kernel)
theorem lk_79 : Cond.selects RX2 yX2_placeOrRefusal yX2_placeOrRefusal ∈ tb_g := tb_in 2 (by decide +kernel) (by decide +kernel)
theorem lk_80 : Cond.methodLink RX2 76 yX2_find ∈ tb_g := tb_in 164 (by decide +kernel) (by decide +kernel)
set_option maxRecDepth 100000 in
theorem lk_81 : Cond.code yX2_find cX2_find 4 (some .int) ∈ tb_g := tb_in 167 rfl (by decide +kernel)
theorem lk_82 : Cond.instanceMethod yX2_find ∈ tb_g := tb_in 166 (by decide +kernel) (by decide +kernel)
theorem lk_83 : Cond.selects RX2 yX2_find yX2_find ∈ tb_g := tb_in 3 (by decide +kernel) (by decide +kernel)
theorem lk_84 : Cond.methodLink RX2 79 yX2_isFile ∈ tb_g := tb_in 192 (by decide +kernel) (by decide +kernel)
set_option maxRecDepth 100000 in
theorem lk_85 : Cond.code yX2_isFile cX2_isFile 1 (some .boolean) ∈ tb_g := tb_in 194 rfl (by decide +kernel)
theorem lk_86 : Cond.static yX2_isFile ∈ tb_g := tb_in 193 (by decide +kernel) (by decide +kernel)
theorem lk_87 : Cond.methodLink RX2 82 yX2_layerOfFile ∈ tb_g := tb_in 199 (by decide +kernel) (by decide +kernel)
set_option maxRecDepth 100000 in
theorem lk_88 : Cond.code yX2_layerOfFile cX2_layerOfFile 1 (some .int) ∈ tb_g := tb_in 201 rfl (by decide +kernel)
theorem lk_89 : Cond.static yX2_layerOfFile ∈ tb_g := tb_in 200 (by decide +kernel) (by decide +kernel)
theorem lk_90 : Cond.methodLink RX2 85 yX0_valueAt ∈ tb_g := tb_in 202 (by decide +kernel) (by decide +kernel)
set_option maxRecDepth 100000 in
theorem lk_91 : Cond.code yX0_valueAt cX0_valueAt 2 (some .int) ∈ tb_g := tb_in 205 rfl (by decide +kernel)
theorem lk_92 : Cond.instanceMethod yX0_valueAt ∈ tb_g := tb_in 203 (by decide +kernel) (by decide +kernel)
theorem lk_93 : Cond.selects RX0 yX0_valueAt yX0_valueAt ∈ tb_g := tb_in 204 (by decide +kernel) (by decide +kernel)
theorem lk_94 : Cond.methodLink RX2 94 yX1_child ∈ tb_g := tb_in 218 (by decide +kernel) (by decide +kernel)
theorem lk_95 : Cond.methodLink RX2 88 yX2_directoryPlaceOrRefusal ∈ tb_g := tb_in 210 (by decide +kernel) (by decide +kernel)
set_option maxRecDepth 100000 in
theorem lk_96 : Cond.code yX2_directoryPlaceOrRefusal cX2_directoryPlaceOrRefusal 4 (some .int) ∈ tb_g := tb_in 213 rfl (by decide +kernel)
theorem lk_97 : Cond.instanceMethod yX2_directoryPlaceOrRefusal ∈ tb_g := tb_in 212 (by decide +kernel) (by decide +kernel)
theorem lk_98 : Cond.selects RX2 yX2_directoryPlaceOrRefusal yX2_directoryPlaceOrRefusal ∈ tb_g := tb_in 6 (by decide +kernel) (by decide +kernel)
theorem lk_99 : Cond.methodLink RX2 91 yX2_countIn ∈ tb_g := tb_in 214 (by decide +kernel) (by decide +kernel)
set_option maxRecDepth 100000 in
theorem lk_100 : Cond.code yX2_countIn cX2_countIn 5 (some .int) ∈ tb_g := tb_in 217 rfl (by decide +kernel)
theorem lk_101 : Cond.instanceMethod yX2_countIn ∈ tb_g := tb_in 216 (by decide +kernel) (by decide +kernel)
theorem lk_102 : Cond.selects RX2 yX2_countIn yX2_countIn ∈ tb_g := tb_in 7 (by decide +kernel) (by decide +kernel)
theorem lk_103 : Cond.methodLink RX2 100 yX2_countBelow ∈ tb_g := tb_in 227 (by decide +kernel) (by decide +kernel)
set_option maxRecDepth 100000 in
theorem lk_104 : Cond.code yX2_countBelow cX2_countBelow 7 (some .int) ∈ tb_g := tb_in 230 rfl (by decide +kernel)
theorem lk_105 : Cond.instanceMethod yX2_countBelow ∈ tb_g := tb_in 229 (by decide +kernel) (by decide +kernel)
theorem lk_106 : Cond.selects RX2 yX2_countBelow yX2_countBelow ∈ tb_g := tb_in 8 (by decide +kernel) (by decide +kernel)
theorem lk_107 : Cond.methodLink RX2 103 yX2_objectPlaceOrRefusal ∈ tb_g := tb_in 235 (by decide +kernel) (by decide +kernel)
set_option maxRecDepth 100000 in
theorem lk_108 : Cond.code yX2_objectPlaceOrRefusal cX2_objectPlaceOrRefusal 3 (some .int) ∈ tb_g := tb_in 238 rfl (by decide +kernel)
theorem lk_109 : Cond.instanceMethod yX2_objectPlaceOrRefusal ∈ tb_g := tb_in 237 (by decide +kernel) (by decide +kernel)
theorem lk_110 : Cond.selects RX2 yX2_objectPlaceOrRefusal yX2_objectPlaceOrRefusal ∈ tb_g := tb_in 9 (by decide +kernel) (by decide +kernel)
theorem lk_111 : Cond.methodLink RX2 106 yX2_originOf ∈ tb_g := tb_in 239 (by decide +kernel) (by decide +kernel)
set_option maxRecDepth 100000 in
theorem lk_112 : Cond.code yX2_originOf cX2_originOf 3 (some .int) ∈ tb_g := tb_in 242 rfl (by decide +kernel)
theorem lk_113 : Cond.instanceMethod yX2_originOf ∈ tb_g := tb_in 241 (by decide +kernel) (by decide +kernel)
theorem lk_114 : Cond.selects RX2 yX2_originOf yX2_originOf ∈ tb_g := tb_in 10 (by decide +kernel) (by decide +kernel)
theorem lk_115 : Cond.methodLink RX0 39 arraycopyName ∈ tb_g := tb_in 255 (by decide +kernel) (by decide +kernel)
theorem lk_116 : Cond.native arraycopyName ∈ tb_g := tb_in 257 (by decide +kernel) (by decide +kernel)
theorem lk_117 : Cond.static arraycopyName ∈ tb_g := tb_in 256 (by decide +kernel) (by decide +kernel)
theorem lk_118 : Cond.initialized "java/lang/System" ∈ tb_g := tb_in 46 (by decide +kernel) (by decide +kernel)
theorem lk_119 : Cond.fieldLink RX2 33 "LayeredTree" "keptUpper" "LLayeredTree$Layer;" ∈ tb_g := tb_in 84 (by decide +kernel) (by decide +kernel)
theorem lk_120 : Cond.methodLink RX2 169 yX0_copyFrom ∈ tb_g := tb_in 251 (by decide +kernel) (by decide +kernel)
set_option maxRecDepth 100000 in
theorem lk_121 : Cond.code yX0_copyFrom cX0_copyFrom 2 none ∈ tb_g := tb_in 254 rfl (by decide +kernel)
theorem lk_122 : Cond.instanceMethod yX0_copyFrom ∈ tb_g := tb_in 252 (by decide +kernel) (by decide +kernel)
theorem lk_123 : Cond.selects RX0 yX0_copyFrom yX0_copyFrom ∈ tb_g := tb_in 253 (by decide +kernel) (by decide +kernel)
theorem lk_124 : Cond.fieldLink RX2 122 "LayeredTree" "copyUps" "I" ∈ tb_g := tb_in 83 (by decide +kernel) (by decide +kernel)
theorem lk_125 : Cond.fieldLink RX2 173 "LayeredTree" "keptCopyUps" "I" ∈ tb_g := tb_in 85 (by decide +kernel) (by decide +kernel)
theorem lk_126 : Cond.methodLink RX0 35 yX1_child ∈ tb_g := tb_in 272 (by decide +kernel) (by decide +kernel)
theorem lk_127 : Cond.methodLink RX0 31 yX0_set ∈ tb_g := tb_in 271 (by decide +kernel) (by decide +kernel)
theorem lk_128 : Cond.methodLink RX0 28 yX1_depth ∈ tb_g := tb_in 270 (by decide +kernel) (by decide +kernel)
theorem lk_129 : Cond.methodLink RX2 176 yX2_raise ∈ tb_g := tb_in 262 (by decide +kernel) (by decide +kernel)
set_option maxRecDepth 100000 in
theorem lk_130 : Cond.code yX2_raise cX2_raise 4 none ∈ tb_g := tb_in 265 rfl (by decide +kernel)
theorem lk_131 : Cond.instanceMethod yX2_raise ∈ tb_g := tb_in 264 (by decide +kernel) (by decide +kernel)
theorem lk_132 : Cond.selects RX2 yX2_raise yX2_raise ∈ tb_g := tb_in 13 (by decide +kernel) (by decide +kernel)
theorem lk_133 : Cond.methodLink RX2 179 yX0_clearFrom ∈ tb_g := tb_in 266 (by decide +kernel) (by decide +kernel)
set_option maxRecDepth 100000 in
theorem lk_134 : Cond.code yX0_clearFrom cX0_clearFrom 6 none ∈ tb_g := tb_in 269 rfl (by decide +kernel)
theorem lk_135 : Cond.instanceMethod yX0_clearFrom ∈ tb_g := tb_in 267 (by decide +kernel) (by decide +kernel)
theorem lk_136 : Cond.selects RX0 yX0_clearFrom yX0_clearFrom ∈ tb_g := tb_in 268 (by decide +kernel) (by decide +kernel)
theorem lk_137 : Cond.methodLink RX2 182 yX2_isCovered ∈ tb_g := tb_in 273 (by decide +kernel) (by decide +kernel)
set_option maxRecDepth 100000 in
theorem lk_138 : Cond.code yX2_isCovered cX2_isCovered 3 (some .boolean) ∈ tb_g := tb_in 276 rfl (by decide +kernel)
theorem lk_139 : Cond.instanceMethod yX2_isCovered ∈ tb_g := tb_in 275 (by decide +kernel) (by decide +kernel)
theorem lk_140 : Cond.selects RX2 yX2_isCovered yX2_isCovered ∈ tb_g := tb_in 14 (by decide +kernel) (by decide +kernel)
theorem lk_141 : Cond.methodLink RX2 112 yX2_keepUpper ∈ tb_g := tb_in 247 (by decide +kernel) (by decide +kernel)
set_option maxRecDepth 100000 in
theorem lk_142 : Cond.code yX2_keepUpper cX2_keepUpper 1 none ∈ tb_g := tb_in 250 rfl (by decide +kernel)
theorem lk_143 : Cond.instanceMethod yX2_keepUpper ∈ tb_g := tb_in 249 (by decide +kernel) (by decide +kernel)
theorem lk_144 : Cond.selects RX2 yX2_keepUpper yX2_keepUpper ∈ tb_g := tb_in 11 (by decide +kernel) (by decide +kernel)
theorem lk_145 : Cond.methodLink RX2 115 yX2_makeAt ∈ tb_g := tb_in 258 (by decide +kernel) (by decide +kernel)
set_option maxRecDepth 100000 in
theorem lk_146 : Cond.code yX2_makeAt cX2_makeAt 3 none ∈ tb_g := tb_in 261 rfl (by decide +kernel)
theorem lk_147 : Cond.instanceMethod yX2_makeAt ∈ tb_g := tb_in 260 (by decide +kernel) (by decide +kernel)
theorem lk_148 : Cond.selects RX2 yX2_makeAt yX2_makeAt ∈ tb_g := tb_in 12 (by decide +kernel) (by decide +kernel)
theorem lk_149 : Cond.methodLink RX2 118 yX2_settle ∈ tb_g := tb_in 277 (by decide +kernel) (by decide +kernel)
set_option maxRecDepth 100000 in
theorem lk_150 : Cond.code yX2_settle cX2_settle 1 (some .int) ∈ tb_g := tb_in 280 rfl (by decide +kernel)
theorem lk_151 : Cond.instanceMethod yX2_settle ∈ tb_g := tb_in 279 (by decide +kernel) (by decide +kernel)
theorem lk_152 : Cond.selects RX2 yX2_settle yX2_settle ∈ tb_g := tb_in 15 (by decide +kernel) (by decide +kernel)
theorem lk_153 : Cond.methodLink RX2 125 yX2_isFilledDirectory ∈ tb_g := tb_in 289 (by decide +kernel) (by decide +kernel)
set_option maxRecDepth 100000 in
theorem lk_154 : Cond.code yX2_isFilledDirectory cX2_isFilledDirectory 3 (some .boolean) ∈ tb_g := tb_in 292 rfl (by decide +kernel)
theorem lk_155 : Cond.instanceMethod yX2_isFilledDirectory ∈ tb_g := tb_in 291 (by decide +kernel) (by decide +kernel)
theorem lk_156 : Cond.selects RX2 yX2_isFilledDirectory yX2_isFilledDirectory ∈ tb_g := tb_in 16 (by decide +kernel) (by decide +kernel)
theorem lk_157 : Cond.methodLink RX2 129 yX2_unmakeAt ∈ tb_g := tb_in 293 (by decide +kernel) (by decide +kernel)
set_option maxRecDepth 100000 in
theorem lk_158 : Cond.code yX2_unmakeAt cX2_unmakeAt 2 none ∈ tb_g := tb_in 296 rfl (by decide +kernel)
theorem lk_159 : Cond.instanceMethod yX2_unmakeAt ∈ tb_g := tb_in 295 (by decide +kernel) (by decide +kernel)
theorem lk_160 : Cond.selects RX2 yX2_unmakeAt yX2_unmakeAt ∈ tb_g := tb_in 17 (by decide +kernel) (by decide +kernel)
theorem lk_161 : Cond.methodLink RX1 23 yX1_depth ∈ tb_g := tb_in 308 (by decide +kernel) (by decide +kernel)
theorem lk_162 : Cond.methodLink RX2 185 yX1_isBelow ∈ tb_g := tb_in 305 (by decide +kernel) (by decide +kernel)
set_option maxRecDepth 100000 in
theorem lk_163 : Cond.code yX1_isBelow cX1_isBelow 3 (some .boolean) ∈ tb_g := tb_in 307 rfl (by decide +kernel)
theorem lk_164 : Cond.static yX1_isBelow ∈ tb_g := tb_in 306 (by decide +kernel) (by decide +kernel)
theorem lk_165 : Cond.fieldLink RX2 38 "LayeredTree" "noted" "[I" ∈ tb_g := tb_in 86 (by decide +kernel) (by decide +kernel)
theorem lk_166 : Cond.methodLink RX2 191 yX1_below ∈ tb_g := tb_in 317 (by decide +kernel) (by decide +kernel)
set_option maxRecDepth 100000 in
theorem lk_167 : Cond.code yX1_below cX1_below 2 (some .int) ∈ tb_g := tb_in 319 rfl (by decide +kernel)
theorem lk_168 : Cond.static yX1_below ∈ tb_g := tb_in 318 (by decide +kernel) (by decide +kernel)
theorem lk_169 : Cond.methodLink RX2 188 yX2_cellOfObject ∈ tb_g := tb_in 313 (by decide +kernel) (by decide +kernel)
set_option maxRecDepth 100000 in
theorem lk_170 : Cond.code yX2_cellOfObject cX2_cellOfObject 3 (some .int) ∈ tb_g := tb_in 316 rfl (by decide +kernel)
theorem lk_171 : Cond.instanceMethod yX2_cellOfObject ∈ tb_g := tb_in 315 (by decide +kernel) (by decide +kernel)
theorem lk_172 : Cond.selects RX2 yX2_cellOfObject yX2_cellOfObject ∈ tb_g := tb_in 20 (by decide +kernel) (by decide +kernel)
theorem lk_173 : Cond.methodLink RX2 133 yX2_refusalOfTarget ∈ tb_g := tb_in 301 (by decide +kernel) (by decide +kernel)
set_option maxRecDepth 100000 in
theorem lk_174 : Cond.code yX2_refusalOfTarget cX2_refusalOfTarget 5 (some .int) ∈ tb_g := tb_in 304 rfl (by decide +kernel)
theorem lk_175 : Cond.instanceMethod yX2_refusalOfTarget ∈ tb_g := tb_in 303 (by decide +kernel) (by decide +kernel)
theorem lk_176 : Cond.selects RX2 yX2_refusalOfTarget yX2_refusalOfTarget ∈ tb_g := tb_in 18 (by decide +kernel) (by decide +kernel)
theorem lk_177 : Cond.methodLink RX2 136 yX2_noteFrom ∈ tb_g := tb_in 309 (by decide +kernel) (by decide +kernel)
set_option maxRecDepth 100000 in
theorem lk_178 : Cond.code yX2_noteFrom cX2_noteFrom 4 none ∈ tb_g := tb_in 312 rfl (by decide +kernel)
theorem lk_179 : Cond.instanceMethod yX2_noteFrom ∈ tb_g := tb_in 311 (by decide +kernel) (by decide +kernel)
theorem lk_180 : Cond.selects RX2 yX2_noteFrom yX2_noteFrom ∈ tb_g := tb_in 19 (by decide +kernel) (by decide +kernel)
theorem lk_181 : Cond.methodLink RX2 142 yX2_depthOfNoted ∈ tb_g := tb_in 320 (by decide +kernel) (by decide +kernel)
set_option maxRecDepth 100000 in
theorem lk_182 : Cond.code yX2_depthOfNoted cX2_depthOfNoted 3 (some .int) ∈ tb_g := tb_in 323 rfl (by decide +kernel)
theorem lk_183 : Cond.instanceMethod yX2_depthOfNoted ∈ tb_g := tb_in 322 (by decide +kernel) (by decide +kernel)
theorem lk_184 : Cond.selects RX2 yX2_depthOfNoted yX2_depthOfNoted ∈ tb_g := tb_in 21 (by decide +kernel) (by decide +kernel)
theorem lk_185 : Cond.methodLink RX2 145 yX2_makeNotedAt ∈ tb_g := tb_in 324 (by decide +kernel) (by decide +kernel)
set_option maxRecDepth 100000 in
theorem lk_186 : Cond.code yX2_makeNotedAt cX2_makeNotedAt 3 none ∈ tb_g := tb_in 327 rfl (by decide +kernel)
theorem lk_187 : Cond.instanceMethod yX2_makeNotedAt ∈ tb_g := tb_in 326 (by decide +kernel) (by decide +kernel)
theorem lk_188 : Cond.selects RX2 yX2_makeNotedAt yX2_makeNotedAt ∈ tb_g := tb_in 22 (by decide +kernel) (by decide +kernel)
theorem lk_189 : Cond.methodLink RX2 151 yX0_whiteoutCount ∈ tb_g := tb_in 344 (by decide +kernel) (by decide +kernel)
set_option maxRecDepth 100000 in
theorem lk_190 : Cond.code yX0_whiteoutCount cX0_whiteoutCount 1 (some .int) ∈ tb_g := tb_in 347 rfl (by decide +kernel)
theorem lk_191 : Cond.instanceMethod yX0_whiteoutCount ∈ tb_g := tb_in 345 (by decide +kernel) (by decide +kernel)
theorem lk_192 : Cond.selects RX0 yX0_whiteoutCount yX0_whiteoutCount ∈ tb_g := tb_in 346 (by decide +kernel) (by decide +kernel)
theorem lk_193 : Cond.methodLink RX3 35 yX3_depth ∈ tb_g := tb_in 460 (by decide +kernel) (by decide +kernel)
theorem lk_194 : Cond.initialized RX3 ∈ tb_g := tb_in 44 (by decide +kernel) (by decide +kernel)
set_option maxRecDepth 100000 in
theorem lk_195 : Cond.code yX3_depth cX3_depth 1 (some .int) ∈ tb_g := tb_in 462 rfl (by decide +kernel)
theorem lk_196 : Cond.static yX3_depth ∈ tb_g := tb_in 461 (by decide +kernel) (by decide +kernel)
theorem lk_197 : Cond.methodLink RX3 39 yX3_without ∈ tb_g := tb_in 463 (by decide +kernel) (by decide +kernel)
set_option maxRecDepth 100000 in
theorem lk_198 : Cond.code yX3_without cX3_without 4 (some .int) ∈ tb_g := tb_in 465 rfl (by decide +kernel)
theorem lk_199 : Cond.static yX3_without ∈ tb_g := tb_in 464 (by decide +kernel) (by decide +kernel)
theorem lk_200 : Cond.fieldLink RX3 46 "LayeredTreeModel" "parts" "I" ∈ tb_g := tb_in 369 (by decide +kernel) (by decide +kernel)
theorem lk_201 : Cond.fieldLink RX3 52 "LayeredTreeModel" "value" "I" ∈ tb_g := tb_in 371 (by decide +kernel) (by decide +kernel)
theorem lk_202 : Cond.fieldLink RX3 43 "LayeredTreeModel" "found" "I" ∈ tb_g := tb_in 368 (by decide +kernel) (by decide +kernel)
theorem lk_203 : Cond.fieldLink RX3 13 "LayeredTreeModel" "values" "[I" ∈ tb_g := tb_in 365 (by decide +kernel) (by decide +kernel)
theorem lk_204 : Cond.fieldLink RX3 49 "LayeredTreeModel" "first" "I" ∈ tb_g := tb_in 370 (by decide +kernel) (by decide +kernel)
theorem lk_205 : Cond.fieldLink RX3 7 "LayeredTreeModel" "kinds" "[I" ∈ tb_g := tb_in 364 (by decide +kernel) (by decide +kernel)
theorem lk_206 : Cond.fieldLink RX3 31 "LayeredTreeModel" "top" "I" ∈ tb_g := tb_in 361 (by decide +kernel) (by decide +kernel)
theorem lk_207 : Cond.methodLink RX3 55 yX3_resolve ∈ tb_g := tb_in 466 (by decide +kernel) (by decide +kernel)
set_option maxRecDepth 100000 in
theorem lk_208 : Cond.code yX3_resolve cX3_resolve 6 none ∈ tb_g := tb_in 469 rfl (by decide +kernel)
theorem lk_209 : Cond.instanceMethod yX3_resolve ∈ tb_g := tb_in 468 (by decide +kernel) (by decide +kernel)
theorem lk_210 : Cond.selects RX3 yX3_resolve yX3_resolve ∈ tb_g := tb_in 27 (by decide +kernel) (by decide +kernel)
theorem lk_211 : Cond.methodLink RX3 59 yX3_look ∈ tb_g := tb_in 456 (by decide +kernel) (by decide +kernel)
set_option maxRecDepth 100000 in
theorem lk_212 : Cond.code yX3_look cX3_look 4 none ∈ tb_g := tb_in 459 rfl (by decide +kernel)
theorem lk_213 : Cond.instanceMethod yX3_look ∈ tb_g := tb_in 458 (by decide +kernel) (by decide +kernel)
theorem lk_214 : Cond.selects RX3 yX3_look yX3_look ∈ tb_g := tb_in 26 (by decide +kernel) (by decide +kernel)
theorem lk_215 : Cond.methodLink RX3 63 yX3_upper ∈ tb_g := tb_in 444 (by decide +kernel) (by decide +kernel)
set_option maxRecDepth 100000 in
theorem lk_216 : Cond.code yX3_upper cX3_upper 2 (some .int) ∈ tb_g := tb_in 447 rfl (by decide +kernel)
theorem lk_217 : Cond.instanceMethod yX3_upper ∈ tb_g := tb_in 446 (by decide +kernel) (by decide +kernel)
theorem lk_218 : Cond.selects RX3 yX3_upper yX3_upper ∈ tb_g := tb_in 25 (by decide +kernel) (by decide +kernel)
theorem lk_219 : Cond.methodLink RX3 66 yX3_set ∈ tb_g := tb_in 523 (by decide +kernel) (by decide +kernel)
set_option maxRecDepth 100000 in
theorem lk_220 : Cond.code yX3_set cX3_set 4 none ∈ tb_g := tb_in 526 rfl (by decide +kernel)
theorem lk_221 : Cond.instanceMethod yX3_set ∈ tb_g := tb_in 525 (by decide +kernel) (by decide +kernel)
theorem lk_222 : Cond.selects RX3 yX3_set yX3_set ∈ tb_g := tb_in 34 (by decide +kernel) (by decide +kernel)
theorem lk_223 : Cond.fieldLink RX3 69 "LayeredTreeModel" "copyUps" "I" ∈ tb_g := tb_in 363 (by decide +kernel) (by decide +kernel)
theorem lk_224 : Cond.methodLink RX3 72 yX3_isBelow ∈ tb_g := tb_in 535 (by decide +kernel) (by decide +kernel)
set_option maxRecDepth 100000 in
theorem lk_225 : Cond.code yX3_isBelow cX3_isBelow 3 (some .boolean) ∈ tb_g := tb_in 537 rfl (by decide +kernel)
theorem lk_226 : Cond.static yX3_isBelow ∈ tb_g := tb_in 536 (by decide +kernel) (by decide +kernel)
theorem lk_227 : Cond.methodLink RX3 76 yX3_raise ∈ tb_g := tb_in 519 (by decide +kernel) (by decide +kernel)
set_option maxRecDepth 100000 in
theorem lk_228 : Cond.code yX3_raise cX3_raise 4 none ∈ tb_g := tb_in 522 rfl (by decide +kernel)
theorem lk_229 : Cond.instanceMethod yX3_raise ∈ tb_g := tb_in 521 (by decide +kernel) (by decide +kernel)
theorem lk_230 : Cond.selects RX3 yX3_raise yX3_raise ∈ tb_g := tb_in 33 (by decide +kernel) (by decide +kernel)
theorem lk_231 : Cond.methodLink RX3 79 yX3_isCovered ∈ tb_g := tb_in 527 (by decide +kernel) (by decide +kernel)
set_option maxRecDepth 100000 in
theorem lk_232 : Cond.code yX3_isCovered cX3_isCovered 3 (some .boolean) ∈ tb_g := tb_in 530 rfl (by decide +kernel)
theorem lk_233 : Cond.instanceMethod yX3_isCovered ∈ tb_g := tb_in 529 (by decide +kernel) (by decide +kernel)
theorem lk_234 : Cond.selects RX3 yX3_isCovered yX3_isCovered ∈ tb_g := tb_in 35 (by decide +kernel) (by decide +kernel)
theorem lk_235 : Cond.methodLink RX3 83 yX3_strip ∈ tb_g := tb_in 531 (by decide +kernel) (by decide +kernel)
set_option maxRecDepth 100000 in
theorem lk_236 : Cond.code yX3_strip cX3_strip 3 none ∈ tb_g := tb_in 534 rfl (by decide +kernel)
theorem lk_237 : Cond.instanceMethod yX3_strip ∈ tb_g := tb_in 533 (by decide +kernel) (by decide +kernel)
theorem lk_238 : Cond.selects RX3 yX3_strip yX3_strip ∈ tb_g := tb_in 36 (by decide +kernel) (by decide +kernel)
theorem lk_239 : Cond.fieldLink RX3 16 "LayeredTreeModel" "oldKinds" "[I" ∈ tb_g := tb_in 366 (by decide +kernel) (by decide +kernel)
theorem lk_240 : Cond.fieldLink RX3 19 "LayeredTreeModel" "oldValues" "[I" ∈ tb_g := tb_in 367 (by decide +kernel) (by decide +kernel)
theorem lk_241 : Cond.methodLink RX3 89 yX3_isLayer ∈ tb_g := tb_in 411 (by decide +kernel) (by decide +kernel)
set_option maxRecDepth 100000 in
theorem lk_242 : Cond.code yX3_isLayer cX3_isLayer 2 (some .boolean) ∈ tb_g := tb_in 414 rfl (by decide +kernel)
theorem lk_243 : Cond.instanceMethod yX3_isLayer ∈ tb_g := tb_in 413 (by decide +kernel) (by decide +kernel)
theorem lk_244 : Cond.selects RX3 yX3_isLayer yX3_isLayer ∈ tb_g := tb_in 23 (by decide +kernel) (by decide +kernel)
theorem lk_245 : Cond.methodLink RX3 86 yX3_entries ∈ tb_g := tb_in 426 (by decide +kernel) (by decide +kernel)
set_option maxRecDepth 100000 in
theorem lk_246 : Cond.code yX3_entries cX3_entries 4 (some .int) ∈ tb_g := tb_in 410 rfl (by decide +kernel)
theorem lk_247 : Cond.instanceMethod yX3_entries ∈ tb_g := tb_in 408 (by decide +kernel) (by decide +kernel)
theorem lk_248 : Cond.selects RX3 yX3_entries yX3_entries ∈ tb_g := tb_in 409 (by decide +kernel) (by decide +kernel)
theorem lk_249 : Cond.methodLink RX3 99 yX3_room ∈ tb_g := tb_in 422 (by decide +kernel) (by decide +kernel)
set_option maxRecDepth 100000 in
theorem lk_250 : Cond.code yX3_room cX3_room 4 (some .boolean) ∈ tb_g := tb_in 425 rfl (by decide +kernel)
theorem lk_251 : Cond.instanceMethod yX3_room ∈ tb_g := tb_in 424 (by decide +kernel) (by decide +kernel)
theorem lk_252 : Cond.selects RX3 yX3_room yX3_room ∈ tb_g := tb_in 24 (by decide +kernel) (by decide +kernel)
theorem lk_253 : Cond.methodLink RX3 92 yX3_placeOf ∈ tb_g := tb_in 419 (by decide +kernel) (by decide +kernel)
set_option maxRecDepth 100000 in
theorem lk_254 : Cond.code yX3_placeOf cX3_placeOf 4 (some .int) ∈ tb_g := tb_in 421 rfl (by decide +kernel)
theorem lk_255 : Cond.static yX3_placeOf ∈ tb_g := tb_in 420 (by decide +kernel) (by decide +kernel)
theorem lk_256 : Cond.fieldLink RX3 95 "LayeredTreeModel" "mounted" "Z" ∈ tb_g := tb_in 362 (by decide +kernel) (by decide +kernel)
theorem lk_257 : Cond.methodLink RX3 102 yX3_entry ∈ tb_g := tb_in 439 (by decide +kernel) (by decide +kernel)
set_option maxRecDepth 100000 in
theorem lk_258 : Cond.code yX3_entry cX3_entry 4 (some .int) ∈ tb_g := tb_in 434 rfl (by decide +kernel)
theorem lk_259 : Cond.instanceMethod yX3_entry ∈ tb_g := tb_in 432 (by decide +kernel) (by decide +kernel)
theorem lk_260 : Cond.selects RX3 yX3_entry yX3_entry ∈ tb_g := tb_in 433 (by decide +kernel) (by decide +kernel)
theorem lk_261 : Cond.methodLink RX3 105 yX3_kind ∈ tb_g := tb_in 474 (by decide +kernel) (by decide +kernel)
set_option maxRecDepth 100000 in
theorem lk_262 : Cond.code yX3_kind cX3_kind 3 (some .int) ∈ tb_g := tb_in 455 rfl (by decide +kernel)
theorem lk_263 : Cond.instanceMethod yX3_kind ∈ tb_g := tb_in 453 (by decide +kernel) (by decide +kernel)
theorem lk_264 : Cond.selects RX3 yX3_kind yX3_kind ∈ tb_g := tb_in 454 (by decide +kernel) (by decide +kernel)
theorem lk_265 : Cond.methodLink RX3 108 yX3_children ∈ tb_g := tb_in 479 (by decide +kernel) (by decide +kernel)
set_option maxRecDepth 100000 in
theorem lk_266 : Cond.code yX3_children cX3_children 4 (some .int) ∈ tb_g := tb_in 482 rfl (by decide +kernel)
theorem lk_267 : Cond.instanceMethod yX3_children ∈ tb_g := tb_in 481 (by decide +kernel) (by decide +kernel)
theorem lk_268 : Cond.selects RX3 yX3_children yX3_children ∈ tb_g := tb_in 28 (by decide +kernel) (by decide +kernel)
theorem lk_269 : Cond.methodLink RX3 111 yX3_size ∈ tb_g := tb_in 487 (by decide +kernel) (by decide +kernel)
set_option maxRecDepth 100000 in
theorem lk_270 : Cond.code yX3_size cX3_size 3 (some .int) ∈ tb_g := tb_in 478 rfl (by decide +kernel)
theorem lk_271 : Cond.instanceMethod yX3_size ∈ tb_g := tb_in 476 (by decide +kernel) (by decide +kernel)
theorem lk_272 : Cond.selects RX3 yX3_size yX3_size ∈ tb_g := tb_in 477 (by decide +kernel) (by decide +kernel)
theorem lk_273 : Cond.methodLink RX3 114 yX3_isPath ∈ tb_g := tb_in 492 (by decide +kernel) (by decide +kernel)
set_option maxRecDepth 100000 in
theorem lk_274 : Cond.code yX3_isPath cX3_isPath 3 (some .boolean) ∈ tb_g := tb_in 494 rfl (by decide +kernel)
theorem lk_275 : Cond.static yX3_isPath ∈ tb_g := tb_in 493 (by decide +kernel) (by decide +kernel)
theorem lk_276 : Cond.methodLink RX3 117 yX3_target ∈ tb_g := tb_in 503 (by decide +kernel) (by decide +kernel)
set_option maxRecDepth 100000 in
theorem lk_277 : Cond.code yX3_target cX3_target 3 (some .int) ∈ tb_g := tb_in 506 rfl (by decide +kernel)
theorem lk_278 : Cond.instanceMethod yX3_target ∈ tb_g := tb_in 505 (by decide +kernel) (by decide +kernel)
theorem lk_279 : Cond.selects RX3 yX3_target yX3_target ∈ tb_g := tb_in 29 (by decide +kernel) (by decide +kernel)
theorem lk_280 : Cond.methodLink RX3 120 yX3_isDirectory ∈ tb_g := tb_in 507 (by decide +kernel) (by decide +kernel)
set_option maxRecDepth 100000 in
theorem lk_281 : Cond.code yX3_isDirectory cX3_isDirectory 2 (some .boolean) ∈ tb_g := tb_in 510 rfl (by decide +kernel)
theorem lk_282 : Cond.instanceMethod yX3_isDirectory ∈ tb_g := tb_in 509 (by decide +kernel) (by decide +kernel)
theorem lk_283 : Cond.selects RX3 yX3_isDirectory yX3_isDirectory ∈ tb_g := tb_in 30 (by decide +kernel) (by decide +kernel)
theorem lk_284 : Cond.methodLink RX3 123 yX3_keep ∈ tb_g := tb_in 511 (by decide +kernel) (by decide +kernel)
set_option maxRecDepth 100000 in
theorem lk_285 : Cond.code yX3_keep cX3_keep 2 none ∈ tb_g := tb_in 514 rfl (by decide +kernel)
theorem lk_286 : Cond.instanceMethod yX3_keep ∈ tb_g := tb_in 513 (by decide +kernel) (by decide +kernel)
theorem lk_287 : Cond.selects RX3 yX3_keep yX3_keep ∈ tb_g := tb_in 31 (by decide +kernel) (by decide +kernel)
theorem lk_288 : Cond.methodLink RX3 126 yX3_make ∈ tb_g := tb_in 515 (by decide +kernel) (by decide +kernel)
set_option maxRecDepth 100000 in
theorem lk_289 : Cond.code yX3_make cX3_make 5 none ∈ tb_g := tb_in 518 rfl (by decide +kernel)
theorem lk_290 : Cond.instanceMethod yX3_make ∈ tb_g := tb_in 517 (by decide +kernel) (by decide +kernel)
theorem lk_291 : Cond.selects RX3 yX3_make yX3_make ∈ tb_g := tb_in 32 (by decide +kernel) (by decide +kernel)
theorem lk_292 : Cond.methodLink RX3 129 yX3_end ∈ tb_g := tb_in 538 (by decide +kernel) (by decide +kernel)
set_option maxRecDepth 100000 in
theorem lk_293 : Cond.code yX3_end cX3_end 3 (some .int) ∈ tb_g := tb_in 541 rfl (by decide +kernel)
theorem lk_294 : Cond.instanceMethod yX3_end ∈ tb_g := tb_in 540 (by decide +kernel) (by decide +kernel)
theorem lk_295 : Cond.selects RX3 yX3_end yX3_end ∈ tb_g := tb_in 37 (by decide +kernel) (by decide +kernel)
theorem lk_296 : Cond.methodLink RX3 132 yX3_unmake ∈ tb_g := tb_in 550 (by decide +kernel) (by decide +kernel)
set_option maxRecDepth 100000 in
theorem lk_297 : Cond.code yX3_unmake cX3_unmake 2 none ∈ tb_g := tb_in 553 rfl (by decide +kernel)
theorem lk_298 : Cond.instanceMethod yX3_unmake ∈ tb_g := tb_in 552 (by decide +kernel) (by decide +kernel)
theorem lk_299 : Cond.selects RX3 yX3_unmake yX3_unmake ∈ tb_g := tb_in 38 (by decide +kernel) (by decide +kernel)
theorem lk_300 : Cond.fieldLink RX3 22 "LayeredTreeModel" "noted" "[I" ∈ tb_g := tb_in 372 (by decide +kernel) (by decide +kernel)
theorem lk_301 : Cond.fieldLink RX3 135 "LayeredTreeModel" "notes" "I" ∈ tb_g := tb_in 375 (by decide +kernel) (by decide +kernel)
theorem lk_302 : Cond.fieldLink RX3 25 "LayeredTreeModel" "notedKind" "[I" ∈ tb_g := tb_in 373 (by decide +kernel) (by decide +kernel)
theorem lk_303 : Cond.fieldLink RX3 28 "LayeredTreeModel" "notedValue" "[I" ∈ tb_g := tb_in 374 (by decide +kernel) (by decide +kernel)
theorem lk_304 : Cond.methodLink RX3 138 yX3_note ∈ tb_g := tb_in 558 (by decide +kernel) (by decide +kernel)
set_option maxRecDepth 100000 in
theorem lk_305 : Cond.code yX3_note cX3_note 6 (some .int) ∈ tb_g := tb_in 561 rfl (by decide +kernel)
theorem lk_306 : Cond.instanceMethod yX3_note ∈ tb_g := tb_in 560 (by decide +kernel) (by decide +kernel)
theorem lk_307 : Cond.selects RX3 yX3_note yX3_note ∈ tb_g := tb_in 39 (by decide +kernel) (by decide +kernel)
theorem lk_308 : Cond.lays RX0 "LayeredTree$Layer" "whitedOut" "I" ∈ tb_g := tb_in 75 (by decide +kernel) (by decide +kernel)
theorem lk_309 : Cond.lays RX0 "LayeredTree$Layer" "filled" "I" ∈ tb_g := tb_in 73 (by decide +kernel) (by decide +kernel)
theorem lk_310 : Cond.laysFinal RX0 "LayeredTree$Layer" "cells" "[I" ∈ tb_g := tb_in 71 (by decide +kernel) (by decide +kernel)
theorem lk_311 : Cond.laysFinal RX2 "LayeredTree" "noted" "[I" ∈ tb_g := tb_in 101 (by decide +kernel) (by decide +kernel)
theorem lk_312 : Cond.lays RX2 "LayeredTree" "keptCopyUps" "I" ∈ tb_g := tb_in 99 (by decide +kernel) (by decide +kernel)
theorem lk_313 : Cond.laysFinal RX2 "LayeredTree" "keptUpper" "LLayeredTree$Layer;" ∈ tb_g := tb_in 97 (by decide +kernel) (by decide +kernel)
theorem lk_314 : Cond.lays RX2 "LayeredTree" "copyUps" "I" ∈ tb_g := tb_in 95 (by decide +kernel) (by decide +kernel)
theorem lk_315 : Cond.lays RX2 "LayeredTree" "mounted" "Z" ∈ tb_g := tb_in 93 (by decide +kernel) (by decide +kernel)
theorem lk_316 : Cond.laysFinal RX2 "LayeredTree" "upper" "LLayeredTree$Layer;" ∈ tb_g := tb_in 91 (by decide +kernel) (by decide +kernel)
theorem lk_317 : Cond.laysFinal RX2 "LayeredTree" "layers" "[LLayeredTree$Layer;" ∈ tb_g := tb_in 89 (by decide +kernel) (by decide +kernel)
theorem lk_318 : Cond.laysFinal RX2 "LayeredTree" "top" "I" ∈ tb_g := tb_in 87 (by decide +kernel) (by decide +kernel)
theorem lk_319 : Cond.lays RX3 "LayeredTreeModel" "notes" "I" ∈ tb_g := tb_in 404 (by decide +kernel) (by decide +kernel)
theorem lk_320 : Cond.laysFinal RX3 "LayeredTreeModel" "notedValue" "[I" ∈ tb_g := tb_in 402 (by decide +kernel) (by decide +kernel)
theorem lk_321 : Cond.laysFinal RX3 "LayeredTreeModel" "notedKind" "[I" ∈ tb_g := tb_in 400 (by decide +kernel) (by decide +kernel)
theorem lk_322 : Cond.laysFinal RX3 "LayeredTreeModel" "noted" "[I" ∈ tb_g := tb_in 398 (by decide +kernel) (by decide +kernel)
theorem lk_323 : Cond.lays RX3 "LayeredTreeModel" "value" "I" ∈ tb_g := tb_in 396 (by decide +kernel) (by decide +kernel)
theorem lk_324 : Cond.lays RX3 "LayeredTreeModel" "first" "I" ∈ tb_g := tb_in 394 (by decide +kernel) (by decide +kernel)
theorem lk_325 : Cond.lays RX3 "LayeredTreeModel" "parts" "I" ∈ tb_g := tb_in 392 (by decide +kernel) (by decide +kernel)
theorem lk_326 : Cond.lays RX3 "LayeredTreeModel" "found" "I" ∈ tb_g := tb_in 390 (by decide +kernel) (by decide +kernel)
theorem lk_327 : Cond.laysFinal RX3 "LayeredTreeModel" "oldValues" "[I" ∈ tb_g := tb_in 388 (by decide +kernel) (by decide +kernel)
theorem lk_328 : Cond.laysFinal RX3 "LayeredTreeModel" "oldKinds" "[I" ∈ tb_g := tb_in 386 (by decide +kernel) (by decide +kernel)
theorem lk_329 : Cond.laysFinal RX3 "LayeredTreeModel" "values" "[I" ∈ tb_g := tb_in 384 (by decide +kernel) (by decide +kernel)
theorem lk_330 : Cond.laysFinal RX3 "LayeredTreeModel" "kinds" "[I" ∈ tb_g := tb_in 382 (by decide +kernel) (by decide +kernel)
theorem lk_331 : Cond.lays RX3 "LayeredTreeModel" "copyUps" "I" ∈ tb_g := tb_in 380 (by decide +kernel) (by decide +kernel)
theorem lk_332 : Cond.lays RX3 "LayeredTreeModel" "mounted" "Z" ∈ tb_g := tb_in 378 (by decide +kernel) (by decide +kernel)
theorem lk_333 : Cond.laysFinal RX3 "LayeredTreeModel" "top" "I" ∈ tb_g := tb_in 376 (by decide +kernel) (by decide +kernel)
theorem usX0 : ∀ w ∈ u_ws RX0 TX0 3, w ∈ tb_g := List.forall_mem_cons.mpr ⟨lk_310, List.forall_mem_cons.mpr ⟨lk_309, List.forall_mem_cons.mpr ⟨lk_308, fun _ h => absurd h List.not_mem_nil⟩⟩⟩
theorem usX2 : ∀ w ∈ u_ws RX2 TX2 8, w ∈ tb_g := List.forall_mem_cons.mpr ⟨lk_318, List.forall_mem_cons.mpr ⟨lk_317, List.forall_mem_cons.mpr ⟨lk_316, List.forall_mem_cons.mpr ⟨lk_315, List.forall_mem_cons.mpr ⟨lk_314, List.forall_mem_cons.mpr ⟨lk_313, List.forall_mem_cons.mpr ⟨lk_312, List.forall_mem_cons.mpr ⟨lk_311, fun _ h => absurd h List.not_mem_nil⟩⟩⟩⟩⟩⟩⟩⟩
theorem usX3 : ∀ w ∈ u_ws RX3 TX3 15, w ∈ tb_g := List.forall_mem_cons.mpr ⟨lk_333, List.forall_mem_cons.mpr ⟨lk_332, List.forall_mem_cons.mpr ⟨lk_331, List.forall_mem_cons.mpr ⟨lk_330, List.forall_mem_cons.mpr ⟨lk_329, List.forall_mem_cons.mpr ⟨lk_328, List.forall_mem_cons.mpr ⟨lk_327, List.forall_mem_cons.mpr ⟨lk_326, List.forall_mem_cons.mpr ⟨lk_325, List.forall_mem_cons.mpr ⟨lk_324, List.forall_mem_cons.mpr ⟨lk_323, List.forall_mem_cons.mpr ⟨lk_322, List.forall_mem_cons.mpr ⟨lk_321, List.forall_mem_cons.mpr ⟨lk_320, List.forall_mem_cons.mpr ⟨lk_319, fun _ h => absurd h List.not_mem_nil⟩⟩⟩⟩⟩⟩⟩⟩⟩⟩⟩⟩⟩⟩⟩
abbrev wsX2_init : List Cond := .code yX2_init cX2_init 3 none :: tb_g
abbrev wsX2_put : List Cond := .code yX2_put cX2_put 7 (some .boolean) :: tb_g
abbrev wsX2_mount : List Cond := .code yX2_mount cX2_mount 1 (some .boolean) :: tb_g
abbrev wsX2_kind : List Cond := .code yX2_kind cX2_kind 4 (some .int) :: tb_g
abbrev wsX2_read : List Cond := .code yX2_read cX2_read 4 (some .int) :: tb_g
abbrev wsX2_size : List Cond := .code yX2_size cX2_size 3 (some .int) :: tb_g
abbrev wsX2_name : List Cond := .code yX2_name cX2_name 7 (some .int) :: tb_g
abbrev wsX2_objects : List Cond := .code yX2_objects cX2_objects 1 (some .int) :: tb_g
abbrev wsX2_origin : List Cond := .code yX2_origin cX2_origin 4 (some .int) :: tb_g
abbrev wsX2_makeDir : List Cond := .code yX2_makeDir cX2_makeDir 3 (some .int) :: tb_g
abbrev wsX2_write : List Cond := .code yX2_write cX2_write 5 (some .int) :: tb_g
abbrev wsX2_remove : List Cond := .code yX2_remove cX2_remove 4 (some .int) :: tb_g
abbrev wsX2_rename : List Cond := .code yX2_rename cX2_rename 6 (some .int) :: tb_g
abbrev wsX2_entry : List Cond := .code yX2_entry cX2_entry 4 (some .int) :: tb_g
abbrev wsX2_entryValue : List Cond := .code yX2_entryValue cX2_entryValue 4 (some .int) :: tb_g
abbrev wsX2_entries : List Cond := .code yX2_entries cX2_entries 2 (some .int) :: tb_g
abbrev wsX2_whiteouts : List Cond := .code yX2_whiteouts cX2_whiteouts 1 (some .int) :: tb_g
abbrev wsX2_copies : List Cond := .code yX2_copies cX2_copies 1 (some .int) :: tb_g
abbrev wsX2_placeOrRefusal : List Cond := .code yX2_placeOrRefusal cX2_placeOrRefusal 3 (some .int) :: tb_g
abbrev wsX2_objectPlaceOrRefusal : List Cond := .code yX2_objectPlaceOrRefusal cX2_objectPlaceOrRefusal 3 (some .int) :: tb_g
abbrev wsX2_directoryPlaceOrRefusal : List Cond := .code yX2_directoryPlaceOrRefusal cX2_directoryPlaceOrRefusal 4 (some .int) :: tb_g
abbrev wsX2_isLayer : List Cond := .code yX2_isLayer cX2_isLayer 2 (some .boolean) :: tb_g
abbrev wsX2_hasRoomIn : List Cond := .code yX2_hasRoomIn cX2_hasRoomIn 4 (some .boolean) :: tb_g
abbrev wsX2_isDirectory : List Cond := .code yX2_isDirectory cX2_isDirectory 1 (some .boolean) :: tb_g
abbrev wsX2_isFile : List Cond := .code yX2_isFile cX2_isFile 1 (some .boolean) :: tb_g
abbrev wsX2_foundFile : List Cond := .code yX2_foundFile cX2_foundFile 1 (some .int) :: tb_g
abbrev wsX2_layerOfFile : List Cond := .code yX2_layerOfFile cX2_layerOfFile 1 (some .int) :: tb_g
abbrev wsX2_originOf : List Cond := .code yX2_originOf cX2_originOf 3 (some .int) :: tb_g
abbrev wsX2_isPart : List Cond := .code yX2_isPart cX2_isPart 2 (some .boolean) :: tb_g
abbrev wsX2_partOf : List Cond := .code yX2_partOf cX2_partOf 1 (some .int) :: tb_g
abbrev wsX2_allParts : List Cond := .code yX2_allParts cX2_allParts 1 (some .int) :: tb_g
abbrev wsX2_find : List Cond := .code yX2_find cX2_find 4 (some .int) :: tb_g
abbrev wsX2_findAmong : List Cond := .code yX2_findAmong cX2_findAmong 6 (some .int) :: tb_g
abbrev wsX2_isCovered : List Cond := .code yX2_isCovered cX2_isCovered 3 (some .boolean) :: tb_g
abbrev wsX2_countIn : List Cond := .code yX2_countIn cX2_countIn 5 (some .int) :: tb_g
abbrev wsX2_countBelow : List Cond := .code yX2_countBelow cX2_countBelow 7 (some .int) :: tb_g
abbrev wsX2_isFilledDirectory : List Cond := .code yX2_isFilledDirectory cX2_isFilledDirectory 3 (some .boolean) :: tb_g
abbrev wsX2_keepUpper : List Cond := .code yX2_keepUpper cX2_keepUpper 1 none :: tb_g
abbrev wsX2_settle : List Cond := .code yX2_settle cX2_settle 1 (some .int) :: tb_g
abbrev wsX2_raise : List Cond := .code yX2_raise cX2_raise 4 none :: tb_g
abbrev wsX2_makeAt : List Cond := .code yX2_makeAt cX2_makeAt 3 none :: tb_g
abbrev wsX2_unmakeAt : List Cond := .code yX2_unmakeAt cX2_unmakeAt 2 none :: tb_g
abbrev wsX2_refusalOfTarget : List Cond := .code yX2_refusalOfTarget cX2_refusalOfTarget 5 (some .int) :: tb_g
abbrev wsX2_noteFrom : List Cond := .code yX2_noteFrom cX2_noteFrom 4 none :: tb_g
abbrev wsX2_cellOfObject : List Cond := .code yX2_cellOfObject cX2_cellOfObject 3 (some .int) :: tb_g
abbrev wsX2_depthOfNoted : List Cond := .code yX2_depthOfNoted cX2_depthOfNoted 3 (some .int) :: tb_g
abbrev wsX2_makeNotedAt : List Cond := .code yX2_makeNotedAt cX2_makeNotedAt 3 none :: tb_g
abbrev wsX3_init : List Cond := .code yX3_init cX3_init 2 none :: tb_g
abbrev wsX3_placeOf : List Cond := .code yX3_placeOf cX3_placeOf 4 (some .int) :: tb_g
abbrev wsX3_depth : List Cond := .code yX3_depth cX3_depth 1 (some .int) :: tb_g
abbrev wsX3_without : List Cond := .code yX3_without cX3_without 4 (some .int) :: tb_g
abbrev wsX3_isPath : List Cond := .code yX3_isPath cX3_isPath 3 (some .boolean) :: tb_g
abbrev wsX3_isBelow : List Cond := .code yX3_isBelow cX3_isBelow 3 (some .boolean) :: tb_g
abbrev wsX3_resolve : List Cond := .code yX3_resolve cX3_resolve 6 none :: tb_g
abbrev wsX3_look : List Cond := .code yX3_look cX3_look 4 none :: tb_g
abbrev wsX3_isCovered : List Cond := .code yX3_isCovered cX3_isCovered 3 (some .boolean) :: tb_g
abbrev wsX3_children : List Cond := .code yX3_children cX3_children 4 (some .int) :: tb_g
abbrev wsX3_upper : List Cond := .code yX3_upper cX3_upper 2 (some .int) :: tb_g
abbrev wsX3_set : List Cond := .code yX3_set cX3_set 4 none :: tb_g
abbrev wsX3_raise : List Cond := .code yX3_raise cX3_raise 4 none :: tb_g
abbrev wsX3_strip : List Cond := .code yX3_strip cX3_strip 3 none :: tb_g
abbrev wsX3_make : List Cond := .code yX3_make cX3_make 5 none :: tb_g
abbrev wsX3_unmake : List Cond := .code yX3_unmake cX3_unmake 2 none :: tb_g
abbrev wsX3_keep : List Cond := .code yX3_keep cX3_keep 2 none :: tb_g
abbrev wsX3_end : List Cond := .code yX3_end cX3_end 3 (some .int) :: tb_g
abbrev wsX3_isLayer : List Cond := .code yX3_isLayer cX3_isLayer 2 (some .boolean) :: tb_g
abbrev wsX3_entries : List Cond := .code yX3_entries cX3_entries 4 (some .int) :: tb_g
abbrev wsX3_room : List Cond := .code yX3_room cX3_room 4 (some .boolean) :: tb_g
abbrev wsX3_put : List Cond := .code yX3_put cX3_put 8 (some .boolean) :: tb_g
abbrev wsX3_mount : List Cond := .code yX3_mount cX3_mount 2 (some .boolean) :: tb_g
abbrev wsX3_entry : List Cond := .code yX3_entry cX3_entry 4 (some .int) :: tb_g
abbrev wsX3_entryValue : List Cond := .code yX3_entryValue cX3_entryValue 4 (some .int) :: tb_g
abbrev wsX3_whiteouts : List Cond := .code yX3_whiteouts cX3_whiteouts 3 (some .int) :: tb_g
abbrev wsX3_copies : List Cond := .code yX3_copies cX3_copies 1 (some .int) :: tb_g
abbrev wsX3_kind : List Cond := .code yX3_kind cX3_kind 3 (some .int) :: tb_g
abbrev wsX3_read : List Cond := .code yX3_read cX3_read 3 (some .int) :: tb_g
abbrev wsX3_size : List Cond := .code yX3_size cX3_size 3 (some .int) :: tb_g
abbrev wsX3_name : List Cond := .code yX3_name cX3_name 7 (some .int) :: tb_g
abbrev wsX3_objects : List Cond := .code yX3_objects cX3_objects 4 (some .int) :: tb_g
abbrev wsX3_origin : List Cond := .code yX3_origin cX3_origin 3 (some .int) :: tb_g
abbrev wsX3_target : List Cond := .code yX3_target cX3_target 3 (some .int) :: tb_g
abbrev wsX3_isDirectory : List Cond := .code yX3_isDirectory cX3_isDirectory 2 (some .boolean) :: tb_g
abbrev wsX3_makeDir : List Cond := .code yX3_makeDir cX3_makeDir 4 (some .int) :: tb_g
abbrev wsX3_write : List Cond := .code yX3_write cX3_write 6 (some .int) :: tb_g
abbrev wsX3_remove : List Cond := .code yX3_remove cX3_remove 4 (some .int) :: tb_g
abbrev wsX3_note : List Cond := .code yX3_note cX3_note 6 (some .int) :: tb_g
abbrev wsX3_rename : List Cond := .code yX3_rename cX3_rename 14 (some .int) :: tb_g
abbrev wsX0_init : List Cond := .code yX0_init cX0_init 1 none :: tb_g
abbrev wsX0_fileCell : List Cond := .code yX0_fileCell cX0_fileCell 1 (some .int) :: tb_g
abbrev wsX0_kindAt : List Cond := .code yX0_kindAt cX0_kindAt 2 (some .int) :: tb_g
abbrev wsX0_valueAt : List Cond := .code yX0_valueAt cX0_valueAt 2 (some .int) :: tb_g
abbrev wsX0_canHoldIn : List Cond := .code yX0_canHoldIn cX0_canHoldIn 2 (some .boolean) :: tb_g
abbrev wsX0_entryCount : List Cond := .code yX0_entryCount cX0_entryCount 1 (some .int) :: tb_g
abbrev wsX0_whiteoutCount : List Cond := .code yX0_whiteoutCount cX0_whiteoutCount 1 (some .int) :: tb_g
abbrev wsX0_set : List Cond := .code yX0_set cX0_set 3 none :: tb_g
abbrev wsX0_clearFrom : List Cond := .code yX0_clearFrom cX0_clearFrom 6 none :: tb_g
abbrev wsX0_copyFrom : List Cond := .code yX0_copyFrom cX0_copyFrom 2 none :: tb_g
abbrev wsX1_ofPath : List Cond := .code yX1_ofPath cX1_ofPath 4 (some .int) :: tb_g
abbrev wsX1_depth : List Cond := .code yX1_depth cX1_depth 2 (some .int) :: tb_g
abbrev wsX1_child : List Cond := .code yX1_child cX1_child 2 (some .int) :: tb_g
abbrev wsX1_parent : List Cond := .code yX1_parent cX1_parent 1 (some .int) :: tb_g
abbrev wsX1_above : List Cond := .code yX1_above cX1_above 2 (some .int) :: tb_g
abbrev wsX1_below : List Cond := .code yX1_below cX1_below 2 (some .int) :: tb_g
abbrev wsX1_isBelow : List Cond := .code yX1_isBelow cX1_isBelow 3 (some .boolean) :: tb_g
