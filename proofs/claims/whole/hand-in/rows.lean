section
-- ===== PART A: goes FIRST, ahead of the names: the tables' words, and 'selects' of the private methods out of them =====
/-- a private method of a class that the tables say can be made, by its rows of tables_1 -/
def lw_okq (q : MethodName × Nat) : Prop := (q.1.cls ≠ "java/lang/invoke/MethodHandle" ∧ q.1.cls ≠ "java/lang/invoke/VarHandle") ∧ Cond.instantiable q.1.cls q.2 ∈ tables_1 ∧ Cond.privateMethod q.1 ∈ tables_1 ∧ Cond.instanceMethod q.1 ∈ tables_1
theorem lw_p0 : lw_okq (⟨"MethodBook", "thingOf", "(I)LMethodBook$Thing;"⟩, 3) := ⟨⟨by decide +kernel, by decide +kernel⟩, List.mem_of_getElem? (i := 5) (by decide +kernel), List.mem_of_getElem? (i := 48) (by decide +kernel), List.mem_of_getElem? (i := 49) (by decide +kernel)⟩
theorem lw_p1 : lw_okq (⟨"MethodBook", "isValue", "(I)Z"⟩, 3) := ⟨⟨by decide +kernel, by decide +kernel⟩, List.mem_of_getElem? (i := 5) (by decide +kernel), List.mem_of_getElem? (i := 52) (by decide +kernel), List.mem_of_getElem? (i := 53) (by decide +kernel)⟩
theorem lw_p2 : lw_okq (⟨"MethodBook", "thingMeantBy", "(I)LMethodBook$Thing;"⟩, 3) := ⟨⟨by decide +kernel, by decide +kernel⟩, List.mem_of_getElem? (i := 5) (by decide +kernel), List.mem_of_getElem? (i := 59) (by decide +kernel), List.mem_of_getElem? (i := 60) (by decide +kernel)⟩
theorem lw_p3 : lw_okq (⟨"MethodBook$Thing", "setField", "(II)Z"⟩, 2) := ⟨⟨by decide +kernel, by decide +kernel⟩, List.mem_of_getElem? (i := 28) (by decide +kernel), List.mem_of_getElem? (i := 66) (by decide +kernel), List.mem_of_getElem? (i := 67) (by decide +kernel)⟩
theorem lw_p4 : lw_okq (⟨"MethodBook$Thing", "hasField", "(I)Z"⟩, 2) := ⟨⟨by decide +kernel, by decide +kernel⟩, List.mem_of_getElem? (i := 28) (by decide +kernel), List.mem_of_getElem? (i := 70) (by decide +kernel), List.mem_of_getElem? (i := 71) (by decide +kernel)⟩
theorem lw_p5 : lw_okq (⟨"MethodBook$Thing", "field", "(I)I"⟩, 2) := ⟨⟨by decide +kernel, by decide +kernel⟩, List.mem_of_getElem? (i := 28) (by decide +kernel), List.mem_of_getElem? (i := 78) (by decide +kernel), List.mem_of_getElem? (i := 79) (by decide +kernel)⟩
theorem lw_p6 : lw_okq (⟨"MethodBook", "goUp", "(II)I"⟩, 3) := ⟨⟨by decide +kernel, by decide +kernel⟩, List.mem_of_getElem? (i := 5) (by decide +kernel), List.mem_of_getElem? (i := 90) (by decide +kernel), List.mem_of_getElem? (i := 91) (by decide +kernel)⟩
theorem lw_p7 : lw_okq (⟨"MethodBook", "classMeantBy", "(I)LMethodBook$Thing;"⟩, 3) := ⟨⟨by decide +kernel, by decide +kernel⟩, List.mem_of_getElem? (i := 5) (by decide +kernel), List.mem_of_getElem? (i := 94) (by decide +kernel), List.mem_of_getElem? (i := 95) (by decide +kernel)⟩
theorem lw_p8 : lw_okq (⟨"MethodBook$Thing", "canBeClass", "()Z"⟩, 2) := ⟨⟨by decide +kernel, by decide +kernel⟩, List.mem_of_getElem? (i := 28) (by decide +kernel), List.mem_of_getElem? (i := 98) (by decide +kernel), List.mem_of_getElem? (i := 99) (by decide +kernel)⟩
theorem lw_p9 : lw_okq (⟨"MethodBook", "hasBadDictionary", "(LMethodBook$Thing;)Z"⟩, 3) := ⟨⟨by decide +kernel, by decide +kernel⟩, List.mem_of_getElem? (i := 5) (by decide +kernel), List.mem_of_getElem? (i := 102) (by decide +kernel), List.mem_of_getElem? (i := 103) (by decide +kernel)⟩
theorem lw_p10 : lw_okq (⟨"MethodBook", "findIn", "(LMethodBook$Thing;I)Z"⟩, 3) := ⟨⟨by decide +kernel, by decide +kernel⟩, List.mem_of_getElem? (i := 5) (by decide +kernel), List.mem_of_getElem? (i := 106) (by decide +kernel), List.mem_of_getElem? (i := 107) (by decide +kernel)⟩
theorem lw_p11 : lw_okq (⟨"MethodBook$Thing", "placeOfMethod", "(I)I"⟩, 2) := ⟨⟨by decide +kernel, by decide +kernel⟩, List.mem_of_getElem? (i := 28) (by decide +kernel), List.mem_of_getElem? (i := 110) (by decide +kernel), List.mem_of_getElem? (i := 111) (by decide +kernel)⟩
theorem lw_p12 : lw_okq (⟨"MethodBook$Thing", "exchange", "(II)I"⟩, 2) := ⟨⟨by decide +kernel, by decide +kernel⟩, List.mem_of_getElem? (i := 28) (by decide +kernel), List.mem_of_getElem? (i := 139) (by decide +kernel), List.mem_of_getElem? (i := 140) (by decide +kernel)⟩
theorem lw_p13 : lw_okq (⟨"MethodBookModel", "isField", "(II)Z"⟩, 5) := ⟨⟨by decide +kernel, by decide +kernel⟩, List.mem_of_getElem? (i := 151) (by decide +kernel), List.mem_of_getElem? (i := 182) (by decide +kernel), List.mem_of_getElem? (i := 183) (by decide +kernel)⟩
theorem lw_p14 : lw_okq (⟨"MethodBookModel", "isMade", "(I)Z"⟩, 5) := ⟨⟨by decide +kernel, by decide +kernel⟩, List.mem_of_getElem? (i := 151) (by decide +kernel), List.mem_of_getElem? (i := 186) (by decide +kernel), List.mem_of_getElem? (i := 187) (by decide +kernel)⟩
theorem lw_p15 : lw_okq (⟨"MethodBookModel", "isValue", "(I)Z"⟩, 5) := ⟨⟨by decide +kernel, by decide +kernel⟩, List.mem_of_getElem? (i := 151) (by decide +kernel), List.mem_of_getElem? (i := 190) (by decide +kernel), List.mem_of_getElem? (i := 191) (by decide +kernel)⟩
def lw_privs_1 : List (MethodName × Nat) := [(⟨"MethodBook", "thingOf", "(I)LMethodBook$Thing;"⟩, 3), (⟨"MethodBook", "isValue", "(I)Z"⟩, 3), (⟨"MethodBook", "thingMeantBy", "(I)LMethodBook$Thing;"⟩, 3), (⟨"MethodBook$Thing", "setField", "(II)Z"⟩, 2), (⟨"MethodBook$Thing", "hasField", "(I)Z"⟩, 2), (⟨"MethodBook$Thing", "field", "(I)I"⟩, 2), (⟨"MethodBook", "goUp", "(II)I"⟩, 3), (⟨"MethodBook", "classMeantBy", "(I)LMethodBook$Thing;"⟩, 3), (⟨"MethodBook$Thing", "canBeClass", "()Z"⟩, 2), (⟨"MethodBook", "hasBadDictionary", "(LMethodBook$Thing;)Z"⟩, 3), (⟨"MethodBook", "findIn", "(LMethodBook$Thing;I)Z"⟩, 3), (⟨"MethodBook$Thing", "placeOfMethod", "(I)I"⟩, 2), (⟨"MethodBook$Thing", "exchange", "(II)I"⟩, 2), (⟨"MethodBookModel", "isField", "(II)Z"⟩, 5), (⟨"MethodBookModel", "isMade", "(I)Z"⟩, 5), (⟨"MethodBookModel", "isValue", "(I)Z"⟩, 5)]
theorem lw_r1 : ∀ q ∈ lw_privs_1, lw_okq q := List.forall_mem_cons.mpr ⟨lw_p0, List.forall_mem_cons.mpr ⟨lw_p1, List.forall_mem_cons.mpr ⟨lw_p2, List.forall_mem_cons.mpr ⟨lw_p3, List.forall_mem_cons.mpr ⟨lw_p4, List.forall_mem_cons.mpr ⟨lw_p5, List.forall_mem_cons.mpr ⟨lw_p6, List.forall_mem_cons.mpr ⟨lw_p7, List.forall_mem_cons.mpr ⟨lw_p8, List.forall_mem_cons.mpr ⟨lw_p9, List.forall_mem_cons.mpr ⟨lw_p10, List.forall_mem_cons.mpr ⟨lw_p11, List.forall_mem_cons.mpr ⟨lw_p12, List.forall_mem_cons.mpr ⟨lw_p13, List.forall_mem_cons.mpr ⟨lw_p14, List.forall_mem_cons.mpr ⟨lw_p15, fun _ h => absurd h List.not_mem_nil⟩⟩⟩⟩⟩⟩⟩⟩⟩⟩⟩⟩⟩⟩⟩⟩
theorem lw_p16 : lw_okq (⟨"MethodBookModel", "fieldsOf", "(I)I"⟩, 5) := ⟨⟨by decide +kernel, by decide +kernel⟩, List.mem_of_getElem? (i := 151) (by decide +kernel), List.mem_of_getElem? (i := 206) (by decide +kernel), List.mem_of_getElem? (i := 207) (by decide +kernel)⟩
theorem lw_p17 : lw_okq (⟨"MethodBookModel", "field", "(II)I"⟩, 5) := ⟨⟨by decide +kernel, by decide +kernel⟩, List.mem_of_getElem? (i := 151) (by decide +kernel), List.mem_of_getElem? (i := 210) (by decide +kernel), List.mem_of_getElem? (i := 211) (by decide +kernel)⟩
theorem lw_p18 : lw_okq (⟨"MethodBookModel", "isOfFields", "(I)Z"⟩, 5) := ⟨⟨by decide +kernel, by decide +kernel⟩, List.mem_of_getElem? (i := 151) (by decide +kernel), List.mem_of_getElem? (i := 214) (by decide +kernel), List.mem_of_getElem? (i := 215) (by decide +kernel)⟩
theorem lw_p19 : lw_okq (⟨"MethodBookModel", "placeOf", "(II)I"⟩, 5) := ⟨⟨by decide +kernel, by decide +kernel⟩, List.mem_of_getElem? (i := 151) (by decide +kernel), List.mem_of_getElem? (i := 218) (by decide +kernel), List.mem_of_getElem? (i := 219) (by decide +kernel)⟩
def lw_privs_2 : List (MethodName × Nat) := [(⟨"MethodBookModel", "fieldsOf", "(I)I"⟩, 5), (⟨"MethodBookModel", "field", "(II)I"⟩, 5), (⟨"MethodBookModel", "isOfFields", "(I)Z"⟩, 5), (⟨"MethodBookModel", "placeOf", "(II)I"⟩, 5)]
theorem lw_r2 : ∀ q ∈ lw_privs_2, lw_okq q := List.forall_mem_cons.mpr ⟨lw_p16, List.forall_mem_cons.mpr ⟨lw_p17, List.forall_mem_cons.mpr ⟨lw_p18, List.forall_mem_cons.mpr ⟨lw_p19, fun _ h => absurd h List.not_mem_nil⟩⟩⟩⟩
def lw_privs : List (MethodName × Nat) := lw_privs_1 ++ (lw_privs_2)
def lw_tbl : List Cond := k2_sels lw_privs ++ tables_1
theorem lw_privs_ok : ∀ q ∈ lw_privs, lw_okq q := by
  show ∀ q ∈ lw_privs_1 ++ (lw_privs_2), lw_okq q
  exact List.forall_mem_append.mpr ⟨lw_r1, lw_r2⟩
-- ===== end of PART A; then your names; then what follows =====
/-! ===== BEGIN words of one list among another's, by their places ===== -/
theorem goodIn_r {big : List Cond} (ws : List Cond) (ps : List Nat) (hp : ws = ps.filterMap (fun i => big[i]?)) (h : ws.all goodWord = true) : GoodIn big ws := by
  intro w hw
  have h1 := List.all_eq_true.mp h w hw
  rw [hp] at hw
  obtain ⟨i, -, hi⟩ := List.mem_filterMap.mp hw
  have hm : w ∈ big := by first | exact List.mem_of_getElem? hi | exact List.getElem?_mem hi
  exact ⟨hm, good_of_word h1⟩
theorem goodIn_app {big a b : List Cond} (ha : GoodIn big a) (hb : GoodIn big b) : GoodIn big (a ++ b) := fun w h => (List.mem_append.mp h).elim (ha w) (hb w)
theorem goodIn_ca {big a b : List Cond} {c : Cond} (ha : GoodIn big (c :: a)) (hb : GoodIn big b) : GoodIn big (c :: (a ++ b)) := fun w h => (List.mem_cons.mp h).elim (fun e => ha w (List.mem_cons.mpr (Or.inl e))) (fun h => (List.mem_append.mp h).elim (fun h => ha w (List.mem_cons.mpr (Or.inr h))) (hb w))
theorem goodIn_sub {big ws : List Cond} (hm : ∀ w ∈ ws, w ∈ big) (h : ws.all goodWord = true) : GoodIn big ws := fun w hw => ⟨hm w hw, good_of_word (List.all_eq_true.mp h w hw)⟩
/-! ===== END ===== -/

/-! ===== BEGIN printed: names, fields, word lists, decode rows ===== -/
def RX0 : String := "MethodBook$Thing"
def TX0 : u_T := fun k => match k with
  | 0 => ("MethodBook$Thing", "fields", "[I", true)
  | _ => ("MethodBook$Thing", "ofFields", "Z", true)
def tyX0 : Nat → FieldType := fun k => match k with
  | 0 => .array .int
  | _ => .boolean
abbrev wsX00 : List Cond := u_ws RX0 TX0 2
theorem nmX0 : ∀ a, a < 2 → ∀ b, b < 2 → a ≠ b → (TX0 a).2.1 ≠ (TX0 b).2.1 := by decide +kernel
theorem tyX0_ok : ∀ k, k < 2 → parseFieldDescriptor (TX0 k).2.2.1 = some (tyX0 k) := by decide +kernel
abbrev cX0_init : ByteArray := prog_2_method_1_code
def yX0_init : MethodName := ⟨RX0, "<init>", "(IZ)V"⟩
abbrev cX0_canBeClass : ByteArray := prog_2_method_2_code
def yX0_canBeClass : MethodName := ⟨RX0, "canBeClass", "()Z"⟩
abbrev cX0_hasField : ByteArray := prog_2_method_3_code
def yX0_hasField : MethodName := ⟨RX0, "hasField", "(I)Z"⟩
abbrev cX0_field : ByteArray := prog_2_method_4_code
def yX0_field : MethodName := ⟨RX0, "field", "(I)I"⟩
abbrev cX0_setField : ByteArray := prog_2_method_5_code
def yX0_setField : MethodName := ⟨RX0, "setField", "(II)Z"⟩
abbrev cX0_placeOfMethod : ByteArray := prog_2_method_6_code
def yX0_placeOfMethod : MethodName := ⟨RX0, "placeOfMethod", "(I)I"⟩
abbrev cX0_exchange : ByteArray := prog_2_method_7_code
def yX0_exchange : MethodName := ⟨RX0, "exchange", "(II)I"⟩
def RX1 : String := "MethodBook"
def TX1 : u_T := fun k => match k with
  | 0 => ("MethodBook", "things", "[LMethodBook$Thing;", true)
  | 1 => ("MethodBook", "foundMethod", "I", false)
  | _ => ("MethodBook", "foundClass", "I", false)
def tyX1 : Nat → FieldType := fun k => match k with
  | 0 => .array (.object "MethodBook$Thing")
  | 1 => .int
  | _ => .int
abbrev wsX10 : List Cond := u_ws RX1 TX1 3
theorem nmX1 : ∀ a, a < 3 → ∀ b, b < 3 → a ≠ b → (TX1 a).2.1 ≠ (TX1 b).2.1 := by decide +kernel
theorem tyX1_ok : ∀ k, k < 3 → parseFieldDescriptor (TX1 k).2.2.1 = some (tyX1 k) := by decide +kernel
abbrev cX1_init : ByteArray := prog_1_method_1_code
def yX1_init : MethodName := ⟨RX1, "<init>", "()V"⟩
abbrev cX1_make : ByteArray := prog_1_method_2_code
def yX1_make : MethodName := ⟨RX1, "make", "(IIZ)Z"⟩
abbrev cX1_put : ByteArray := prog_1_method_3_code
def yX1_put : MethodName := ⟨RX1, "put", "(III)Z"⟩
abbrev cX1_get : ByteArray := prog_1_method_4_code
def yX1_get : MethodName := ⟨RX1, "get", "(II)I"⟩
abbrev cX1_size : ByteArray := prog_1_method_5_code
def yX1_size : MethodName := ⟨RX1, "size", "(I)I"⟩
abbrev cX1_lookUp : ByteArray := prog_1_method_6_code
def yX1_lookUp : MethodName := ⟨RX1, "lookUp", "(II)I"⟩
abbrev cX1_method : ByteArray := prog_1_method_7_code
def yX1_method : MethodName := ⟨RX1, "method", "()I"⟩
abbrev cX1_where : ByteArray := prog_1_method_8_code
def yX1_where : MethodName := ⟨RX1, "where", "()I"⟩
abbrev cX1_above : ByteArray := prog_1_method_9_code
def yX1_above : MethodName := ⟨RX1, "above", "(I)I"⟩
abbrev cX1_inherits : ByteArray := prog_1_method_10_code
def yX1_inherits : MethodName := ⟨RX1, "inherits", "(II)Z"⟩
abbrev cX1_become : ByteArray := prog_1_method_11_code
def yX1_become : MethodName := ⟨RX1, "become", "(II)I"⟩
abbrev cX1_users : ByteArray := prog_1_method_12_code
def yX1_users : MethodName := ⟨RX1, "users", "(I)I"⟩
abbrev cX1_senders : ByteArray := prog_1_method_13_code
def yX1_senders : MethodName := ⟨RX1, "senders", "(I)I"⟩
abbrev cX1_goUp : ByteArray := prog_1_method_14_code
def yX1_goUp : MethodName := ⟨RX1, "goUp", "(II)I"⟩
abbrev cX1_hasBadDictionary : ByteArray := prog_1_method_15_code
def yX1_hasBadDictionary : MethodName := ⟨RX1, "hasBadDictionary", "(LMethodBook$Thing;)Z"⟩
abbrev cX1_findIn : ByteArray := prog_1_method_16_code
def yX1_findIn : MethodName := ⟨RX1, "findIn", "(LMethodBook$Thing;I)Z"⟩
abbrev cX1_isValue : ByteArray := prog_1_method_17_code
def yX1_isValue : MethodName := ⟨RX1, "isValue", "(I)Z"⟩
abbrev cX1_isNumber : ByteArray := prog_1_method_18_code
def yX1_isNumber : MethodName := ⟨RX1, "isNumber", "(I)Z"⟩
abbrev cX1_thingOf : ByteArray := prog_1_method_19_code
def yX1_thingOf : MethodName := ⟨RX1, "thingOf", "(I)LMethodBook$Thing;"⟩
abbrev cX1_thingMeantBy : ByteArray := prog_1_method_20_code
def yX1_thingMeantBy : MethodName := ⟨RX1, "thingMeantBy", "(I)LMethodBook$Thing;"⟩
abbrev cX1_objectNumber : ByteArray := prog_1_method_21_code
def yX1_objectNumber : MethodName := ⟨RX1, "objectNumber", "(I)I"⟩
abbrev cX1_objectValue : ByteArray := prog_1_method_22_code
def yX1_objectValue : MethodName := ⟨RX1, "objectValue", "(I)I"⟩
abbrev cX1_classMeantBy : ByteArray := prog_1_method_23_code
def yX1_classMeantBy : MethodName := ⟨RX1, "classMeantBy", "(I)LMethodBook$Thing;"⟩
def RX2 : String := "MethodBookModel"
def TX2 : u_T := fun k => match k with
  | 0 => ("MethodBookModel", "made", "[Z", true)
  | 1 => ("MethodBookModel", "sizes", "[I", true)
  | 2 => ("MethodBookModel", "fields", "[I", true)
  | 3 => ("MethodBookModel", "method", "I", false)
  | _ => ("MethodBookModel", "where", "I", false)
def tyX2 : Nat → FieldType := fun k => match k with
  | 0 => .array .boolean
  | 1 => .array .int
  | 2 => .array .int
  | 3 => .int
  | _ => .int
abbrev wsX20 : List Cond := u_ws RX2 TX2 5
theorem nmX2 : ∀ a, a < 5 → ∀ b, b < 5 → a ≠ b → (TX2 a).2.1 ≠ (TX2 b).2.1 := by decide +kernel
theorem tyX2_ok : ∀ k, k < 5 → parseFieldDescriptor (TX2 k).2.2.1 = some (tyX2 k) := by decide +kernel
abbrev cX2_init : ByteArray := prog_4_method_1_code
def yX2_init : MethodName := ⟨RX2, "<init>", "()V"⟩
abbrev cX2_isMade : ByteArray := prog_4_method_2_code
def yX2_isMade : MethodName := ⟨RX2, "isMade", "(I)Z"⟩
abbrev cX2_isValue : ByteArray := prog_4_method_3_code
def yX2_isValue : MethodName := ⟨RX2, "isValue", "(I)Z"⟩
abbrev cX2_fieldsOf : ByteArray := prog_4_method_4_code
def yX2_fieldsOf : MethodName := ⟨RX2, "fieldsOf", "(I)I"⟩
abbrev cX2_isOfFields : ByteArray := prog_4_method_5_code
def yX2_isOfFields : MethodName := ⟨RX2, "isOfFields", "(I)Z"⟩
abbrev cX2_field : ByteArray := prog_4_method_6_code
def yX2_field : MethodName := ⟨RX2, "field", "(II)I"⟩
abbrev cX2_make : ByteArray := prog_4_method_7_code
def yX2_make : MethodName := ⟨RX2, "make", "(IIZ)Z"⟩
abbrev cX2_isField : ByteArray := prog_4_method_8_code
def yX2_isField : MethodName := ⟨RX2, "isField", "(II)Z"⟩
abbrev cX2_put : ByteArray := prog_4_method_9_code
def yX2_put : MethodName := ⟨RX2, "put", "(III)Z"⟩
abbrev cX2_get : ByteArray := prog_4_method_10_code
def yX2_get : MethodName := ⟨RX2, "get", "(II)I"⟩
abbrev cX2_size : ByteArray := prog_4_method_11_code
def yX2_size : MethodName := ⟨RX2, "size", "(I)I"⟩
abbrev cX2_placeOf : ByteArray := prog_4_method_12_code
def yX2_placeOf : MethodName := ⟨RX2, "placeOf", "(II)I"⟩
abbrev cX2_lookUp : ByteArray := prog_4_method_13_code
def yX2_lookUp : MethodName := ⟨RX2, "lookUp", "(II)I"⟩
abbrev cX2_method : ByteArray := prog_4_method_14_code
def yX2_method : MethodName := ⟨RX2, "method", "()I"⟩
abbrev cX2_where : ByteArray := prog_4_method_15_code
def yX2_where : MethodName := ⟨RX2, "where", "()I"⟩
abbrev cX2_above : ByteArray := prog_4_method_16_code
def yX2_above : MethodName := ⟨RX2, "above", "(I)I"⟩
abbrev cX2_inherits : ByteArray := prog_4_method_17_code
def yX2_inherits : MethodName := ⟨RX2, "inherits", "(II)Z"⟩
abbrev cX2_become : ByteArray := prog_4_method_18_code
def yX2_become : MethodName := ⟨RX2, "become", "(II)I"⟩
abbrev cX2_users : ByteArray := prog_4_method_19_code
def yX2_users : MethodName := ⟨RX2, "users", "(I)I"⟩
abbrev cX2_senders : ByteArray := prog_4_method_20_code
def yX2_senders : MethodName := ⟨RX2, "senders", "(I)I"⟩
def RL : String := "MethodBookLaw"
abbrev cL_law : ByteArray := code
def yL_law : MethodName := ⟨RL, "law", "([I)Z"⟩
def wsX0_init : List Cond := .code yX0_init cX0_init 3 none :: ([.methodLink RX0 3 objectInit, .instanceMethod objectInit, .code objectInit ⟨#[0xb1]⟩ 1 none, .arrayClass .int, .fieldLink RX0 9 "MethodBook$Thing" "fields" "[I", .fieldLink RX0 15 "MethodBook$Thing" "ofFields" "Z"] ++ wsX00)
def wsX0_canBeClass : List Cond := .code yX0_canBeClass cX0_canBeClass 1 (some .boolean) :: ([.fieldLink RX0 9 "MethodBook$Thing" "fields" "[I"] ++ wsX00)
def wsX0_hasField : List Cond := .code yX0_hasField cX0_hasField 2 (some .boolean) :: ([.fieldLink RX0 9 "MethodBook$Thing" "fields" "[I"] ++ wsX00)
def wsX0_field : List Cond := .code yX0_field cX0_field 2 (some .int) :: ([.fieldLink RX0 9 "MethodBook$Thing" "fields" "[I", .methodLink RX0 19 yX0_hasField, .instanceMethod yX0_hasField, .selects RX0 yX0_hasField yX0_hasField, .initialized RX0, .code yX0_hasField cX0_hasField 2 (some .boolean)] ++ wsX00)
def wsX0_setField : List Cond := .code yX0_setField cX0_setField 3 (some .boolean) :: ([.fieldLink RX0 9 "MethodBook$Thing" "fields" "[I", .methodLink RX0 19 yX0_hasField, .instanceMethod yX0_hasField, .selects RX0 yX0_hasField yX0_hasField, .initialized RX0, .code yX0_hasField cX0_hasField 2 (some .boolean)] ++ wsX00)
def wsX0_placeOfMethod : List Cond := .code yX0_placeOfMethod cX0_placeOfMethod 3 (some .int) :: ([.fieldLink RX0 9 "MethodBook$Thing" "fields" "[I"] ++ wsX00)
def wsX0_exchange : List Cond := .code yX0_exchange cX0_exchange 5 (some .int) :: ([.fieldLink RX0 9 "MethodBook$Thing" "fields" "[I"] ++ wsX00)
def wsX1_init : List Cond := .code yX1_init cX1_init 1 none :: ([.methodLink RX1 1 objectInit, .instanceMethod objectInit, .code objectInit ⟨#[0xb1]⟩ 1 none, .classLink RX1 9 RX0, .fieldLink RX1 11 "MethodBook" "things" "[LMethodBook$Thing;", .fieldLink RX1 15 "MethodBook" "foundMethod" "I", .fieldLink RX1 19 "MethodBook" "foundClass" "I"] ++ wsX10)
def wsX1_make : List Cond := .code yX1_make cX1_make 4 (some .boolean) :: ([.fieldLink RX1 11 "MethodBook" "things" "[LMethodBook$Thing;", .classLink RX1 9 RX0, .instantiable RX0 2, .initialized RX0, .instanceMethod yX0_init, .code yX0_init cX0_init 3 none, .methodLink RX0 3 objectInit, .instanceMethod objectInit, .code objectInit ⟨#[0xb1]⟩ 1 none, .arrayClass .int, .fieldLink RX0 9 "MethodBook$Thing" "fields" "[I", .fieldLink RX0 15 "MethodBook$Thing" "ofFields" "Z"] ++ wsX10 ++ wsX00)
def wsX1_thingOf : List Cond := .code yX1_thingOf cX1_thingOf 2 (some (.object "MethodBook$Thing")) :: ([.fieldLink RX1 11 "MethodBook" "things" "[LMethodBook$Thing;"] ++ wsX10)
def wsX1_isNumber : List Cond := .code yX1_isNumber cX1_isNumber 1 (some .boolean) :: ([])
def wsX1_objectNumber : List Cond := .code yX1_objectNumber cX1_objectNumber 1 (some .int) :: ([])
def wsX1_thingMeantBy : List Cond := .code yX1_thingMeantBy cX1_thingMeantBy 2 (some (.object "MethodBook$Thing")) :: ([.methodLink RX1 89 yX1_isNumber, .static yX1_isNumber, .initialized RX1, .code yX1_isNumber cX1_isNumber 1 (some .boolean), .methodLink RX1 53 yX1_objectNumber, .static yX1_objectNumber, .code yX1_objectNumber cX1_objectNumber 1 (some .int), .methodLink RX1 25 yX1_thingOf, .instanceMethod yX1_thingOf, .selects RX1 yX1_thingOf yX1_thingOf, .code yX1_thingOf cX1_thingOf 2 (some (.object "MethodBook$Thing")), .fieldLink RX1 11 "MethodBook" "things" "[LMethodBook$Thing;"] ++ wsX10)
def wsX1_isValue : List Cond := .code yX1_isValue cX1_isValue 2 (some .boolean) :: ([.methodLink RX1 89 yX1_isNumber, .static yX1_isNumber, .initialized RX1, .code yX1_isNumber cX1_isNumber 1 (some .boolean), .methodLink RX1 75 yX1_thingMeantBy, .instanceMethod yX1_thingMeantBy, .selects RX1 yX1_thingMeantBy yX1_thingMeantBy, .code yX1_thingMeantBy cX1_thingMeantBy 2 (some (.object "MethodBook$Thing")), .methodLink RX1 53 yX1_objectNumber, .static yX1_objectNumber, .code yX1_objectNumber cX1_objectNumber 1 (some .int), .methodLink RX1 25 yX1_thingOf, .instanceMethod yX1_thingOf, .selects RX1 yX1_thingOf yX1_thingOf, .code yX1_thingOf cX1_thingOf 2 (some (.object "MethodBook$Thing")), .fieldLink RX1 11 "MethodBook" "things" "[LMethodBook$Thing;"] ++ wsX10)
def wsX1_put_r1 : List Cond := [Cond.methodLink RX1 25 yX1_thingOf, Cond.instanceMethod yX1_thingOf, Cond.selects RX1 yX1_thingOf yX1_thingOf, Cond.initialized RX1, Cond.code yX1_thingOf cX1_thingOf 2 (some (.object "MethodBook$Thing")), Cond.fieldLink RX1 11 "MethodBook" "things" "[LMethodBook$Thing;", Cond.methodLink RX1 29 yX1_isValue, Cond.instanceMethod yX1_isValue, Cond.selects RX1 yX1_isValue yX1_isValue, Cond.code yX1_isValue cX1_isValue 2 (some .boolean), Cond.methodLink RX1 89 yX1_isNumber, Cond.static yX1_isNumber, Cond.code yX1_isNumber cX1_isNumber 1 (some .boolean), Cond.methodLink RX1 75 yX1_thingMeantBy, Cond.instanceMethod yX1_thingMeantBy, Cond.selects RX1 yX1_thingMeantBy yX1_thingMeantBy, Cond.code yX1_thingMeantBy cX1_thingMeantBy 2 (some (.object "MethodBook$Thing")), Cond.methodLink RX1 53 yX1_objectNumber, Cond.static yX1_objectNumber, Cond.code yX1_objectNumber cX1_objectNumber 1 (some .int), Cond.instanceMethod yX0_setField, Cond.initialized RX0, Cond.selects RX0 yX0_setField yX0_setField, Cond.code yX0_setField cX0_setField 3 (some .boolean)]
def wsX1_put_r2 : List Cond := [Cond.fieldLink RX0 9 "MethodBook$Thing" "fields" "[I", Cond.methodLink RX0 19 yX0_hasField, Cond.instanceMethod yX0_hasField, Cond.selects RX0 yX0_hasField yX0_hasField, Cond.code yX0_hasField cX0_hasField 2 (some .boolean)]
def wsX1_put : List Cond := .code yX1_put cX1_put 5 (some .boolean) :: ((wsX1_put_r1 ++ wsX1_put_r2) ++ wsX10 ++ wsX00)
def wsX1_get : List Cond := .code yX1_get cX1_get 4 (some .int) :: ([.methodLink RX1 25 yX1_thingOf, .instanceMethod yX1_thingOf, .selects RX1 yX1_thingOf yX1_thingOf, .initialized RX1, .code yX1_thingOf cX1_thingOf 2 (some (.object "MethodBook$Thing")), .fieldLink RX1 11 "MethodBook" "things" "[LMethodBook$Thing;", .instanceMethod yX0_field, .initialized RX0, .selects RX0 yX0_field yX0_field, .code yX0_field cX0_field 2 (some .int), .fieldLink RX0 9 "MethodBook$Thing" "fields" "[I", .methodLink RX0 19 yX0_hasField, .instanceMethod yX0_hasField, .selects RX0 yX0_hasField yX0_hasField, .code yX0_hasField cX0_hasField 2 (some .boolean)] ++ wsX10 ++ wsX00)
def wsX1_size : List Cond := .code yX1_size cX1_size 3 (some .int) :: ([.methodLink RX1 25 yX1_thingOf, .instanceMethod yX1_thingOf, .selects RX1 yX1_thingOf yX1_thingOf, .initialized RX1, .code yX1_thingOf cX1_thingOf 2 (some (.object "MethodBook$Thing")), .fieldLink RX1 11 "MethodBook" "things" "[LMethodBook$Thing;"] ++ wsX00 ++ wsX10)
def wsX1_classMeantBy : List Cond := .code yX1_classMeantBy cX1_classMeantBy 3 (some (.object "MethodBook$Thing")) :: ([.methodLink RX1 75 yX1_thingMeantBy, .instanceMethod yX1_thingMeantBy, .selects RX1 yX1_thingMeantBy yX1_thingMeantBy, .initialized RX1, .code yX1_thingMeantBy cX1_thingMeantBy 2 (some (.object "MethodBook$Thing")), .methodLink RX1 89 yX1_isNumber, .static yX1_isNumber, .code yX1_isNumber cX1_isNumber 1 (some .boolean), .methodLink RX1 53 yX1_objectNumber, .static yX1_objectNumber, .code yX1_objectNumber cX1_objectNumber 1 (some .int), .methodLink RX1 25 yX1_thingOf, .instanceMethod yX1_thingOf, .selects RX1 yX1_thingOf yX1_thingOf, .code yX1_thingOf cX1_thingOf 2 (some (.object "MethodBook$Thing")), .fieldLink RX1 11 "MethodBook" "things" "[LMethodBook$Thing;", .instanceMethod yX0_canBeClass, .initialized RX0, .selects RX0 yX0_canBeClass yX0_canBeClass, .code yX0_canBeClass cX0_canBeClass 1 (some .boolean), .fieldLink RX0 9 "MethodBook$Thing" "fields" "[I"] ++ wsX10 ++ wsX00)
def wsX1_hasBadDictionary_r1 : List Cond := [Cond.instanceMethod yX0_field, Cond.initialized RX0, Cond.selects RX0 yX0_field yX0_field, Cond.code yX0_field cX0_field 2 (some .int), Cond.fieldLink RX0 9 "MethodBook$Thing" "fields" "[I", Cond.methodLink RX0 19 yX0_hasField, Cond.instanceMethod yX0_hasField, Cond.selects RX0 yX0_hasField yX0_hasField, Cond.code yX0_hasField cX0_hasField 2 (some .boolean), Cond.methodLink RX1 75 yX1_thingMeantBy, Cond.instanceMethod yX1_thingMeantBy, Cond.selects RX1 yX1_thingMeantBy yX1_thingMeantBy, Cond.initialized RX1, Cond.code yX1_thingMeantBy cX1_thingMeantBy 2 (some (.object "MethodBook$Thing")), Cond.methodLink RX1 89 yX1_isNumber, Cond.static yX1_isNumber, Cond.code yX1_isNumber cX1_isNumber 1 (some .boolean), Cond.methodLink RX1 53 yX1_objectNumber, Cond.static yX1_objectNumber, Cond.code yX1_objectNumber cX1_objectNumber 1 (some .int), Cond.methodLink RX1 25 yX1_thingOf, Cond.instanceMethod yX1_thingOf, Cond.selects RX1 yX1_thingOf yX1_thingOf, Cond.code yX1_thingOf cX1_thingOf 2 (some (.object "MethodBook$Thing"))]
def wsX1_hasBadDictionary_r2 : List Cond := [Cond.fieldLink RX1 11 "MethodBook" "things" "[LMethodBook$Thing;"]
def wsX1_hasBadDictionary : List Cond := .code yX1_hasBadDictionary cX1_hasBadDictionary 4 (some .boolean) :: ((wsX1_hasBadDictionary_r1 ++ wsX1_hasBadDictionary_r2) ++ wsX00 ++ wsX10)
def wsX1_findIn : List Cond := .code yX1_findIn cX1_findIn 4 (some .boolean) :: ([.fieldLink RX1 15 "MethodBook" "foundMethod" "I", .instanceMethod yX0_placeOfMethod, .initialized RX0, .selects RX0 yX0_placeOfMethod yX0_placeOfMethod, .code yX0_placeOfMethod cX0_placeOfMethod 3 (some .int), .fieldLink RX0 9 "MethodBook$Thing" "fields" "[I", .instanceMethod yX0_field, .selects RX0 yX0_field yX0_field, .code yX0_field cX0_field 2 (some .int), .methodLink RX0 19 yX0_hasField, .instanceMethod yX0_hasField, .selects RX0 yX0_hasField yX0_hasField, .code yX0_hasField cX0_hasField 2 (some .boolean)] ++ wsX10 ++ wsX00)
def wsX1_goUp_r1 : List Cond := [Cond.fieldLink RX1 19 "MethodBook" "foundClass" "I", Cond.methodLink RX1 62 yX1_classMeantBy, Cond.instanceMethod yX1_classMeantBy, Cond.selects RX1 yX1_classMeantBy yX1_classMeantBy, Cond.initialized RX1, Cond.code yX1_classMeantBy cX1_classMeantBy 3 (some (.object "MethodBook$Thing")), Cond.methodLink RX1 75 yX1_thingMeantBy, Cond.instanceMethod yX1_thingMeantBy, Cond.selects RX1 yX1_thingMeantBy yX1_thingMeantBy, Cond.code yX1_thingMeantBy cX1_thingMeantBy 2 (some (.object "MethodBook$Thing")), Cond.methodLink RX1 89 yX1_isNumber, Cond.static yX1_isNumber, Cond.code yX1_isNumber cX1_isNumber 1 (some .boolean), Cond.methodLink RX1 53 yX1_objectNumber, Cond.static yX1_objectNumber, Cond.code yX1_objectNumber cX1_objectNumber 1 (some .int), Cond.methodLink RX1 25 yX1_thingOf, Cond.instanceMethod yX1_thingOf, Cond.selects RX1 yX1_thingOf yX1_thingOf, Cond.code yX1_thingOf cX1_thingOf 2 (some (.object "MethodBook$Thing")), Cond.fieldLink RX1 11 "MethodBook" "things" "[LMethodBook$Thing;", Cond.instanceMethod yX0_canBeClass, Cond.initialized RX0, Cond.selects RX0 yX0_canBeClass yX0_canBeClass]
def wsX1_goUp_r2 : List Cond := [Cond.code yX0_canBeClass cX0_canBeClass 1 (some .boolean), Cond.fieldLink RX0 9 "MethodBook$Thing" "fields" "[I", Cond.methodLink RX1 81 yX1_hasBadDictionary, Cond.instanceMethod yX1_hasBadDictionary, Cond.selects RX1 yX1_hasBadDictionary yX1_hasBadDictionary, Cond.code yX1_hasBadDictionary cX1_hasBadDictionary 4 (some .boolean), Cond.instanceMethod yX0_field, Cond.selects RX0 yX0_field yX0_field, Cond.code yX0_field cX0_field 2 (some .int), Cond.methodLink RX0 19 yX0_hasField, Cond.instanceMethod yX0_hasField, Cond.selects RX0 yX0_hasField yX0_hasField, Cond.code yX0_hasField cX0_hasField 2 (some .boolean), Cond.methodLink RX1 85 yX1_findIn, Cond.instanceMethod yX1_findIn, Cond.selects RX1 yX1_findIn yX1_findIn, Cond.code yX1_findIn cX1_findIn 4 (some .boolean), Cond.fieldLink RX1 15 "MethodBook" "foundMethod" "I", Cond.instanceMethod yX0_placeOfMethod, Cond.selects RX0 yX0_placeOfMethod yX0_placeOfMethod, Cond.code yX0_placeOfMethod cX0_placeOfMethod 3 (some .int)]
def wsX1_goUp : List Cond := .code yX1_goUp cX1_goUp 6 (some .int) :: ((wsX1_goUp_r1 ++ wsX1_goUp_r2) ++ wsX10 ++ wsX00)
def wsX1_lookUp_r1 : List Cond := [Cond.fieldLink RX1 15 "MethodBook" "foundMethod" "I", Cond.fieldLink RX1 19 "MethodBook" "foundClass" "I", Cond.methodLink RX1 29 yX1_isValue, Cond.instanceMethod yX1_isValue, Cond.selects RX1 yX1_isValue yX1_isValue, Cond.initialized RX1, Cond.code yX1_isValue cX1_isValue 2 (some .boolean), Cond.methodLink RX1 89 yX1_isNumber, Cond.static yX1_isNumber, Cond.code yX1_isNumber cX1_isNumber 1 (some .boolean), Cond.methodLink RX1 75 yX1_thingMeantBy, Cond.instanceMethod yX1_thingMeantBy, Cond.selects RX1 yX1_thingMeantBy yX1_thingMeantBy, Cond.code yX1_thingMeantBy cX1_thingMeantBy 2 (some (.object "MethodBook$Thing")), Cond.methodLink RX1 53 yX1_objectNumber, Cond.static yX1_objectNumber, Cond.code yX1_objectNumber cX1_objectNumber 1 (some .int), Cond.methodLink RX1 25 yX1_thingOf, Cond.instanceMethod yX1_thingOf, Cond.selects RX1 yX1_thingOf yX1_thingOf, Cond.code yX1_thingOf cX1_thingOf 2 (some (.object "MethodBook$Thing")), Cond.fieldLink RX1 11 "MethodBook" "things" "[LMethodBook$Thing;", Cond.methodLink RX1 49 yX1_goUp, Cond.instanceMethod yX1_goUp]
def wsX1_lookUp_r2 : List Cond := [Cond.selects RX1 yX1_goUp yX1_goUp, Cond.code yX1_goUp cX1_goUp 6 (some .int), Cond.methodLink RX1 62 yX1_classMeantBy, Cond.instanceMethod yX1_classMeantBy, Cond.selects RX1 yX1_classMeantBy yX1_classMeantBy, Cond.code yX1_classMeantBy cX1_classMeantBy 3 (some (.object "MethodBook$Thing")), Cond.instanceMethod yX0_canBeClass, Cond.initialized RX0, Cond.selects RX0 yX0_canBeClass yX0_canBeClass, Cond.code yX0_canBeClass cX0_canBeClass 1 (some .boolean), Cond.fieldLink RX0 9 "MethodBook$Thing" "fields" "[I", Cond.methodLink RX1 81 yX1_hasBadDictionary, Cond.instanceMethod yX1_hasBadDictionary, Cond.selects RX1 yX1_hasBadDictionary yX1_hasBadDictionary, Cond.code yX1_hasBadDictionary cX1_hasBadDictionary 4 (some .boolean), Cond.instanceMethod yX0_field, Cond.selects RX0 yX0_field yX0_field, Cond.code yX0_field cX0_field 2 (some .int), Cond.methodLink RX0 19 yX0_hasField, Cond.instanceMethod yX0_hasField, Cond.selects RX0 yX0_hasField yX0_hasField, Cond.code yX0_hasField cX0_hasField 2 (some .boolean), Cond.methodLink RX1 85 yX1_findIn, Cond.instanceMethod yX1_findIn]
def wsX1_lookUp_r3 : List Cond := [Cond.selects RX1 yX1_findIn yX1_findIn, Cond.code yX1_findIn cX1_findIn 4 (some .boolean), Cond.instanceMethod yX0_placeOfMethod, Cond.selects RX0 yX0_placeOfMethod yX0_placeOfMethod, Cond.code yX0_placeOfMethod cX0_placeOfMethod 3 (some .int)]
def wsX1_lookUp : List Cond := .code yX1_lookUp cX1_lookUp 3 (some .int) :: ((wsX1_lookUp_r1 ++ (wsX1_lookUp_r2 ++ wsX1_lookUp_r3)) ++ wsX10 ++ wsX00)
def wsX1_method : List Cond := .code yX1_method cX1_method 1 (some .int) :: ([.fieldLink RX1 15 "MethodBook" "foundMethod" "I"] ++ wsX10)
def wsX1_where : List Cond := .code yX1_where cX1_where 1 (some .int) :: ([.fieldLink RX1 19 "MethodBook" "foundClass" "I"] ++ wsX10)
def wsX1_above_r1 : List Cond := [Cond.fieldLink RX1 19 "MethodBook" "foundClass" "I", Cond.methodLink RX1 53 yX1_objectNumber, Cond.static yX1_objectNumber, Cond.initialized RX1, Cond.code yX1_objectNumber cX1_objectNumber 1 (some .int), Cond.methodLink RX1 56 yX1_get, Cond.instanceMethod yX1_get, Cond.selects RX1 yX1_get yX1_get, Cond.code yX1_get cX1_get 4 (some .int), Cond.methodLink RX1 25 yX1_thingOf, Cond.instanceMethod yX1_thingOf, Cond.selects RX1 yX1_thingOf yX1_thingOf, Cond.code yX1_thingOf cX1_thingOf 2 (some (.object "MethodBook$Thing")), Cond.fieldLink RX1 11 "MethodBook" "things" "[LMethodBook$Thing;", Cond.instanceMethod yX0_field, Cond.initialized RX0, Cond.selects RX0 yX0_field yX0_field, Cond.code yX0_field cX0_field 2 (some .int), Cond.fieldLink RX0 9 "MethodBook$Thing" "fields" "[I", Cond.methodLink RX0 19 yX0_hasField, Cond.instanceMethod yX0_hasField, Cond.selects RX0 yX0_hasField yX0_hasField, Cond.code yX0_hasField cX0_hasField 2 (some .boolean), Cond.methodLink RX1 59 yX1_lookUp]
def wsX1_above_r2 : List Cond := [Cond.instanceMethod yX1_lookUp, Cond.selects RX1 yX1_lookUp yX1_lookUp, Cond.code yX1_lookUp cX1_lookUp 3 (some .int), Cond.fieldLink RX1 15 "MethodBook" "foundMethod" "I", Cond.methodLink RX1 29 yX1_isValue, Cond.instanceMethod yX1_isValue, Cond.selects RX1 yX1_isValue yX1_isValue, Cond.code yX1_isValue cX1_isValue 2 (some .boolean), Cond.methodLink RX1 89 yX1_isNumber, Cond.static yX1_isNumber, Cond.code yX1_isNumber cX1_isNumber 1 (some .boolean), Cond.methodLink RX1 75 yX1_thingMeantBy, Cond.instanceMethod yX1_thingMeantBy, Cond.selects RX1 yX1_thingMeantBy yX1_thingMeantBy, Cond.code yX1_thingMeantBy cX1_thingMeantBy 2 (some (.object "MethodBook$Thing")), Cond.methodLink RX1 49 yX1_goUp, Cond.instanceMethod yX1_goUp, Cond.selects RX1 yX1_goUp yX1_goUp, Cond.code yX1_goUp cX1_goUp 6 (some .int), Cond.methodLink RX1 62 yX1_classMeantBy, Cond.instanceMethod yX1_classMeantBy, Cond.selects RX1 yX1_classMeantBy yX1_classMeantBy, Cond.code yX1_classMeantBy cX1_classMeantBy 3 (some (.object "MethodBook$Thing")), Cond.instanceMethod yX0_canBeClass]
def wsX1_above_r3 : List Cond := [Cond.selects RX0 yX0_canBeClass yX0_canBeClass, Cond.code yX0_canBeClass cX0_canBeClass 1 (some .boolean), Cond.methodLink RX1 81 yX1_hasBadDictionary, Cond.instanceMethod yX1_hasBadDictionary, Cond.selects RX1 yX1_hasBadDictionary yX1_hasBadDictionary, Cond.code yX1_hasBadDictionary cX1_hasBadDictionary 4 (some .boolean), Cond.methodLink RX1 85 yX1_findIn, Cond.instanceMethod yX1_findIn, Cond.selects RX1 yX1_findIn yX1_findIn, Cond.code yX1_findIn cX1_findIn 4 (some .boolean), Cond.instanceMethod yX0_placeOfMethod, Cond.selects RX0 yX0_placeOfMethod yX0_placeOfMethod, Cond.code yX0_placeOfMethod cX0_placeOfMethod 3 (some .int)]
def wsX1_above : List Cond := .code yX1_above cX1_above 2 (some .int) :: ((wsX1_above_r1 ++ (wsX1_above_r2 ++ wsX1_above_r3)) ++ wsX10 ++ wsX00)
def wsX1_inherits_r1 : List Cond := [Cond.methodLink RX1 29 yX1_isValue, Cond.instanceMethod yX1_isValue, Cond.selects RX1 yX1_isValue yX1_isValue, Cond.initialized RX1, Cond.code yX1_isValue cX1_isValue 2 (some .boolean), Cond.methodLink RX1 89 yX1_isNumber, Cond.static yX1_isNumber, Cond.code yX1_isNumber cX1_isNumber 1 (some .boolean), Cond.methodLink RX1 75 yX1_thingMeantBy, Cond.instanceMethod yX1_thingMeantBy, Cond.selects RX1 yX1_thingMeantBy yX1_thingMeantBy, Cond.code yX1_thingMeantBy cX1_thingMeantBy 2 (some (.object "MethodBook$Thing")), Cond.methodLink RX1 53 yX1_objectNumber, Cond.static yX1_objectNumber, Cond.code yX1_objectNumber cX1_objectNumber 1 (some .int), Cond.methodLink RX1 25 yX1_thingOf, Cond.instanceMethod yX1_thingOf, Cond.selects RX1 yX1_thingOf yX1_thingOf, Cond.code yX1_thingOf cX1_thingOf 2 (some (.object "MethodBook$Thing")), Cond.fieldLink RX1 11 "MethodBook" "things" "[LMethodBook$Thing;", Cond.methodLink RX1 62 yX1_classMeantBy, Cond.instanceMethod yX1_classMeantBy, Cond.selects RX1 yX1_classMeantBy yX1_classMeantBy, Cond.code yX1_classMeantBy cX1_classMeantBy 3 (some (.object "MethodBook$Thing"))]
def wsX1_inherits_r2 : List Cond := [Cond.instanceMethod yX0_canBeClass, Cond.initialized RX0, Cond.selects RX0 yX0_canBeClass yX0_canBeClass, Cond.code yX0_canBeClass cX0_canBeClass 1 (some .boolean), Cond.fieldLink RX0 9 "MethodBook$Thing" "fields" "[I", Cond.instanceMethod yX0_field, Cond.selects RX0 yX0_field yX0_field, Cond.code yX0_field cX0_field 2 (some .int), Cond.methodLink RX0 19 yX0_hasField, Cond.instanceMethod yX0_hasField, Cond.selects RX0 yX0_hasField yX0_hasField, Cond.code yX0_hasField cX0_hasField 2 (some .boolean)]
def wsX1_inherits : List Cond := .code yX1_inherits cX1_inherits 6 (some .boolean) :: ((wsX1_inherits_r1 ++ wsX1_inherits_r2) ++ wsX10 ++ wsX00)
def wsX1_objectValue : List Cond := .code yX1_objectValue cX1_objectValue 1 (some .int) :: ([])
def wsX1_become : List Cond := .code yX1_become cX1_become 6 (some .int) :: ([.methodLink RX1 25 yX1_thingOf, .instanceMethod yX1_thingOf, .selects RX1 yX1_thingOf yX1_thingOf, .initialized RX1, .code yX1_thingOf cX1_thingOf 2 (some (.object "MethodBook$Thing")), .fieldLink RX1 11 "MethodBook" "things" "[LMethodBook$Thing;", .methodLink RX1 65 yX1_objectValue, .static yX1_objectValue, .code yX1_objectValue cX1_objectValue 1 (some .int), .instanceMethod yX0_exchange, .initialized RX0, .selects RX0 yX0_exchange yX0_exchange, .code yX0_exchange cX0_exchange 5 (some .int), .fieldLink RX0 9 "MethodBook$Thing" "fields" "[I"] ++ wsX10 ++ wsX00)
def wsX1_users : List Cond := .code yX1_users cX1_users 5 (some .int) :: ([.methodLink RX1 25 yX1_thingOf, .instanceMethod yX1_thingOf, .selects RX1 yX1_thingOf yX1_thingOf, .initialized RX1, .code yX1_thingOf cX1_thingOf 2 (some (.object "MethodBook$Thing")), .fieldLink RX1 11 "MethodBook" "things" "[LMethodBook$Thing;", .instanceMethod yX0_canBeClass, .initialized RX0, .selects RX0 yX0_canBeClass yX0_canBeClass, .code yX0_canBeClass cX0_canBeClass 1 (some .boolean), .fieldLink RX0 9 "MethodBook$Thing" "fields" "[I", .instanceMethod yX0_field, .selects RX0 yX0_field yX0_field, .code yX0_field cX0_field 2 (some .int), .methodLink RX0 19 yX0_hasField, .instanceMethod yX0_hasField, .selects RX0 yX0_hasField yX0_hasField, .code yX0_hasField cX0_hasField 2 (some .boolean), .methodLink RX1 65 yX1_objectValue, .static yX1_objectValue, .code yX1_objectValue cX1_objectValue 1 (some .int)] ++ wsX10 ++ wsX00)
def wsX1_senders_r1 : List Cond := [Cond.methodLink RX1 25 yX1_thingOf, Cond.instanceMethod yX1_thingOf, Cond.selects RX1 yX1_thingOf yX1_thingOf, Cond.initialized RX1, Cond.code yX1_thingOf cX1_thingOf 2 (some (.object "MethodBook$Thing")), Cond.fieldLink RX1 11 "MethodBook" "things" "[LMethodBook$Thing;", Cond.instanceMethod yX0_canBeClass, Cond.initialized RX0, Cond.selects RX0 yX0_canBeClass yX0_canBeClass, Cond.code yX0_canBeClass cX0_canBeClass 1 (some .boolean), Cond.fieldLink RX0 9 "MethodBook$Thing" "fields" "[I", Cond.instanceMethod yX0_field, Cond.selects RX0 yX0_field yX0_field, Cond.code yX0_field cX0_field 2 (some .int), Cond.methodLink RX0 19 yX0_hasField, Cond.instanceMethod yX0_hasField, Cond.selects RX0 yX0_hasField yX0_hasField, Cond.code yX0_hasField cX0_hasField 2 (some .boolean), Cond.methodLink RX1 75 yX1_thingMeantBy, Cond.instanceMethod yX1_thingMeantBy, Cond.selects RX1 yX1_thingMeantBy yX1_thingMeantBy, Cond.code yX1_thingMeantBy cX1_thingMeantBy 2 (some (.object "MethodBook$Thing")), Cond.methodLink RX1 89 yX1_isNumber, Cond.static yX1_isNumber]
def wsX1_senders_r2 : List Cond := [Cond.code yX1_isNumber cX1_isNumber 1 (some .boolean), Cond.methodLink RX1 53 yX1_objectNumber, Cond.static yX1_objectNumber, Cond.code yX1_objectNumber cX1_objectNumber 1 (some .int), Cond.instanceMethod yX0_placeOfMethod, Cond.selects RX0 yX0_placeOfMethod yX0_placeOfMethod, Cond.code yX0_placeOfMethod cX0_placeOfMethod 3 (some .int)]
def wsX1_senders : List Cond := .code yX1_senders cX1_senders 6 (some .int) :: ((wsX1_senders_r1 ++ wsX1_senders_r2) ++ wsX10 ++ wsX00)
def wsX2_init : List Cond := .code yX2_init cX2_init 1 none :: ([.methodLink RX2 1 objectInit, .instanceMethod objectInit, .code objectInit ⟨#[0xb1]⟩ 1 none, .arrayClass .boolean, .fieldLink RX2 7 "MethodBookModel" "made" "[Z", .arrayClass .int, .fieldLink RX2 13 "MethodBookModel" "sizes" "[I", .fieldLink RX2 17 "MethodBookModel" "fields" "[I"] ++ wsX20)
def wsX2_isMade : List Cond := .code yX2_isMade cX2_isMade 2 (some .boolean) :: ([.fieldLink RX2 7 "MethodBookModel" "made" "[Z"] ++ wsX20)
def wsX2_isValue : List Cond := .code yX2_isValue cX2_isValue 2 (some .boolean) :: ([.methodLink RX2 20 yX2_isMade, .instanceMethod yX2_isMade, .selects RX2 yX2_isMade yX2_isMade, .initialized RX2, .code yX2_isMade cX2_isMade 2 (some .boolean), .fieldLink RX2 7 "MethodBookModel" "made" "[Z"] ++ wsX20)
def wsX2_fieldsOf : List Cond := .code yX2_fieldsOf cX2_fieldsOf 2 (some .int) :: ([.fieldLink RX2 13 "MethodBookModel" "sizes" "[I", .methodLink RX2 20 yX2_isMade, .instanceMethod yX2_isMade, .selects RX2 yX2_isMade yX2_isMade, .initialized RX2, .code yX2_isMade cX2_isMade 2 (some .boolean), .fieldLink RX2 7 "MethodBookModel" "made" "[Z"] ++ wsX20)
def wsX2_isOfFields : List Cond := .code yX2_isOfFields cX2_isOfFields 2 (some .boolean) :: ([.fieldLink RX2 13 "MethodBookModel" "sizes" "[I", .methodLink RX2 20 yX2_isMade, .instanceMethod yX2_isMade, .selects RX2 yX2_isMade yX2_isMade, .initialized RX2, .code yX2_isMade cX2_isMade 2 (some .boolean), .fieldLink RX2 7 "MethodBookModel" "made" "[Z"] ++ wsX20)
def wsX2_field : List Cond := .code yX2_field cX2_field 3 (some .int) :: ([.fieldLink RX2 17 "MethodBookModel" "fields" "[I"] ++ wsX20)
def wsX2_make : List Cond := .code yX2_make cX2_make 5 (some .boolean) :: ([.fieldLink RX2 7 "MethodBookModel" "made" "[Z", .fieldLink RX2 13 "MethodBookModel" "sizes" "[I", .fieldLink RX2 17 "MethodBookModel" "fields" "[I"] ++ wsX20)
def wsX2_isField : List Cond := .code yX2_isField cX2_isField 3 (some .boolean) :: ([.fieldLink RX2 13 "MethodBookModel" "sizes" "[I", .methodLink RX2 20 yX2_isMade, .instanceMethod yX2_isMade, .selects RX2 yX2_isMade yX2_isMade, .initialized RX2, .code yX2_isMade cX2_isMade 2 (some .boolean), .fieldLink RX2 7 "MethodBookModel" "made" "[Z"] ++ wsX20)
def wsX2_put : List Cond := .code yX2_put cX2_put 4 (some .boolean) :: ([.fieldLink RX2 17 "MethodBookModel" "fields" "[I", .methodLink RX2 24 yX2_isField, .instanceMethod yX2_isField, .selects RX2 yX2_isField yX2_isField, .initialized RX2, .code yX2_isField cX2_isField 3 (some .boolean), .fieldLink RX2 13 "MethodBookModel" "sizes" "[I", .methodLink RX2 20 yX2_isMade, .instanceMethod yX2_isMade, .selects RX2 yX2_isMade yX2_isMade, .code yX2_isMade cX2_isMade 2 (some .boolean), .fieldLink RX2 7 "MethodBookModel" "made" "[Z", .methodLink RX2 28 yX2_isValue, .instanceMethod yX2_isValue, .selects RX2 yX2_isValue yX2_isValue, .code yX2_isValue cX2_isValue 2 (some .boolean)] ++ wsX20)
def wsX2_get : List Cond := .code yX2_get cX2_get 3 (some .int) :: ([.fieldLink RX2 17 "MethodBookModel" "fields" "[I", .methodLink RX2 24 yX2_isField, .instanceMethod yX2_isField, .selects RX2 yX2_isField yX2_isField, .initialized RX2, .code yX2_isField cX2_isField 3 (some .boolean), .fieldLink RX2 13 "MethodBookModel" "sizes" "[I", .methodLink RX2 20 yX2_isMade, .instanceMethod yX2_isMade, .selects RX2 yX2_isMade yX2_isMade, .code yX2_isMade cX2_isMade 2 (some .boolean), .fieldLink RX2 7 "MethodBookModel" "made" "[Z"] ++ wsX20)
def wsX2_size : List Cond := .code yX2_size cX2_size 2 (some .int) :: ([.fieldLink RX2 13 "MethodBookModel" "sizes" "[I", .methodLink RX2 20 yX2_isMade, .instanceMethod yX2_isMade, .selects RX2 yX2_isMade yX2_isMade, .initialized RX2, .code yX2_isMade cX2_isMade 2 (some .boolean), .fieldLink RX2 7 "MethodBookModel" "made" "[Z"] ++ wsX20)
def wsX2_placeOf : List Cond := .code yX2_placeOf cX2_placeOf 5 (some .int) :: ([.methodLink RX2 31 yX2_fieldsOf, .instanceMethod yX2_fieldsOf, .selects RX2 yX2_fieldsOf yX2_fieldsOf, .initialized RX2, .code yX2_fieldsOf cX2_fieldsOf 2 (some .int), .fieldLink RX2 13 "MethodBookModel" "sizes" "[I", .methodLink RX2 20 yX2_isMade, .instanceMethod yX2_isMade, .selects RX2 yX2_isMade yX2_isMade, .code yX2_isMade cX2_isMade 2 (some .boolean), .fieldLink RX2 7 "MethodBookModel" "made" "[Z", .methodLink RX2 35 yX2_field, .instanceMethod yX2_field, .selects RX2 yX2_field yX2_field, .code yX2_field cX2_field 3 (some .int), .fieldLink RX2 17 "MethodBookModel" "fields" "[I"] ++ wsX20)
def wsX2_lookUp_r1 : List Cond := [Cond.fieldLink RX2 39 "MethodBookModel" "method" "I", Cond.fieldLink RX2 43 "MethodBookModel" "where" "I", Cond.methodLink RX2 28 yX2_isValue, Cond.instanceMethod yX2_isValue, Cond.selects RX2 yX2_isValue yX2_isValue, Cond.initialized RX2, Cond.code yX2_isValue cX2_isValue 2 (some .boolean), Cond.methodLink RX2 20 yX2_isMade, Cond.instanceMethod yX2_isMade, Cond.selects RX2 yX2_isMade yX2_isMade, Cond.code yX2_isMade cX2_isMade 2 (some .boolean), Cond.fieldLink RX2 7 "MethodBookModel" "made" "[Z", Cond.methodLink RX2 31 yX2_fieldsOf, Cond.instanceMethod yX2_fieldsOf, Cond.selects RX2 yX2_fieldsOf yX2_fieldsOf, Cond.code yX2_fieldsOf cX2_fieldsOf 2 (some .int), Cond.fieldLink RX2 13 "MethodBookModel" "sizes" "[I", Cond.methodLink RX2 35 yX2_field, Cond.instanceMethod yX2_field, Cond.selects RX2 yX2_field yX2_field, Cond.code yX2_field cX2_field 3 (some .int), Cond.fieldLink RX2 17 "MethodBookModel" "fields" "[I", Cond.methodLink RX2 46 yX2_isOfFields, Cond.instanceMethod yX2_isOfFields]
def wsX2_lookUp_r2 : List Cond := [Cond.selects RX2 yX2_isOfFields yX2_isOfFields, Cond.code yX2_isOfFields cX2_isOfFields 2 (some .boolean), Cond.methodLink RX2 49 yX2_placeOf, Cond.instanceMethod yX2_placeOf, Cond.selects RX2 yX2_placeOf yX2_placeOf, Cond.code yX2_placeOf cX2_placeOf 5 (some .int)]
def wsX2_lookUp : List Cond := .code yX2_lookUp cX2_lookUp 7 (some .int) :: ((wsX2_lookUp_r1 ++ wsX2_lookUp_r2) ++ wsX20)
def wsX2_method : List Cond := .code yX2_method cX2_method 1 (some .int) :: ([.fieldLink RX2 39 "MethodBookModel" "method" "I"] ++ wsX20)
def wsX2_where : List Cond := .code yX2_where cX2_where 1 (some .int) :: ([.fieldLink RX2 43 "MethodBookModel" "where" "I"] ++ wsX20)
def wsX2_above_r1 : List Cond := [Cond.fieldLink RX2 43 "MethodBookModel" "where" "I", Cond.methodLink RX2 31 yX2_fieldsOf, Cond.instanceMethod yX2_fieldsOf, Cond.selects RX2 yX2_fieldsOf yX2_fieldsOf, Cond.initialized RX2, Cond.code yX2_fieldsOf cX2_fieldsOf 2 (some .int), Cond.fieldLink RX2 13 "MethodBookModel" "sizes" "[I", Cond.methodLink RX2 20 yX2_isMade, Cond.instanceMethod yX2_isMade, Cond.selects RX2 yX2_isMade yX2_isMade, Cond.code yX2_isMade cX2_isMade 2 (some .boolean), Cond.fieldLink RX2 7 "MethodBookModel" "made" "[Z", Cond.methodLink RX2 35 yX2_field, Cond.instanceMethod yX2_field, Cond.selects RX2 yX2_field yX2_field, Cond.code yX2_field cX2_field 3 (some .int), Cond.fieldLink RX2 17 "MethodBookModel" "fields" "[I", Cond.methodLink RX2 52 yX2_lookUp, Cond.instanceMethod yX2_lookUp, Cond.selects RX2 yX2_lookUp yX2_lookUp, Cond.code yX2_lookUp cX2_lookUp 7 (some .int), Cond.fieldLink RX2 39 "MethodBookModel" "method" "I", Cond.methodLink RX2 28 yX2_isValue, Cond.instanceMethod yX2_isValue]
def wsX2_above_r2 : List Cond := [Cond.selects RX2 yX2_isValue yX2_isValue, Cond.code yX2_isValue cX2_isValue 2 (some .boolean), Cond.methodLink RX2 46 yX2_isOfFields, Cond.instanceMethod yX2_isOfFields, Cond.selects RX2 yX2_isOfFields yX2_isOfFields, Cond.code yX2_isOfFields cX2_isOfFields 2 (some .boolean), Cond.methodLink RX2 49 yX2_placeOf, Cond.instanceMethod yX2_placeOf, Cond.selects RX2 yX2_placeOf yX2_placeOf, Cond.code yX2_placeOf cX2_placeOf 5 (some .int)]
def wsX2_above : List Cond := .code yX2_above cX2_above 2 (some .int) :: ((wsX2_above_r1 ++ wsX2_above_r2) ++ wsX20)
def wsX2_inherits : List Cond := .code yX2_inherits cX2_inherits 5 (some .boolean) :: ([.methodLink RX2 28 yX2_isValue, .instanceMethod yX2_isValue, .selects RX2 yX2_isValue yX2_isValue, .initialized RX2, .code yX2_isValue cX2_isValue 2 (some .boolean), .methodLink RX2 20 yX2_isMade, .instanceMethod yX2_isMade, .selects RX2 yX2_isMade yX2_isMade, .code yX2_isMade cX2_isMade 2 (some .boolean), .fieldLink RX2 7 "MethodBookModel" "made" "[Z", .methodLink RX2 31 yX2_fieldsOf, .instanceMethod yX2_fieldsOf, .selects RX2 yX2_fieldsOf yX2_fieldsOf, .code yX2_fieldsOf cX2_fieldsOf 2 (some .int), .fieldLink RX2 13 "MethodBookModel" "sizes" "[I", .methodLink RX2 35 yX2_field, .instanceMethod yX2_field, .selects RX2 yX2_field yX2_field, .code yX2_field cX2_field 3 (some .int), .fieldLink RX2 17 "MethodBookModel" "fields" "[I"] ++ wsX20)
def wsX2_become : List Cond := .code yX2_become cX2_become 7 (some .int) :: ([.fieldLink RX2 13 "MethodBookModel" "sizes" "[I", .fieldLink RX2 7 "MethodBookModel" "made" "[Z", .fieldLink RX2 17 "MethodBookModel" "fields" "[I", .methodLink RX2 20 yX2_isMade, .instanceMethod yX2_isMade, .selects RX2 yX2_isMade yX2_isMade, .initialized RX2, .code yX2_isMade cX2_isMade 2 (some .boolean)] ++ wsX20)
def wsX2_users : List Cond := .code yX2_users cX2_users 4 (some .int) :: ([.methodLink RX2 20 yX2_isMade, .instanceMethod yX2_isMade, .selects RX2 yX2_isMade yX2_isMade, .initialized RX2, .code yX2_isMade cX2_isMade 2 (some .boolean), .fieldLink RX2 7 "MethodBookModel" "made" "[Z", .methodLink RX2 31 yX2_fieldsOf, .instanceMethod yX2_fieldsOf, .selects RX2 yX2_fieldsOf yX2_fieldsOf, .code yX2_fieldsOf cX2_fieldsOf 2 (some .int), .fieldLink RX2 13 "MethodBookModel" "sizes" "[I", .methodLink RX2 35 yX2_field, .instanceMethod yX2_field, .selects RX2 yX2_field yX2_field, .code yX2_field cX2_field 3 (some .int), .fieldLink RX2 17 "MethodBookModel" "fields" "[I"] ++ wsX20)
def wsX2_senders : List Cond := .code yX2_senders cX2_senders 4 (some .int) :: ([.methodLink RX2 31 yX2_fieldsOf, .instanceMethod yX2_fieldsOf, .selects RX2 yX2_fieldsOf yX2_fieldsOf, .initialized RX2, .code yX2_fieldsOf cX2_fieldsOf 2 (some .int), .fieldLink RX2 13 "MethodBookModel" "sizes" "[I", .methodLink RX2 20 yX2_isMade, .instanceMethod yX2_isMade, .selects RX2 yX2_isMade yX2_isMade, .code yX2_isMade cX2_isMade 2 (some .boolean), .fieldLink RX2 7 "MethodBookModel" "made" "[Z", .methodLink RX2 35 yX2_field, .instanceMethod yX2_field, .selects RX2 yX2_field yX2_field, .code yX2_field cX2_field 3 (some .int), .fieldLink RX2 17 "MethodBookModel" "fields" "[I", .methodLink RX2 49 yX2_placeOf, .instanceMethod yX2_placeOf, .selects RX2 yX2_placeOf yX2_placeOf, .code yX2_placeOf cX2_placeOf 5 (some .int)] ++ wsX20)
def wsL_law_r1 : List Cond := [Cond.classLink RL 7 RX1, Cond.instantiable RX1 3, Cond.initialized RX1, Cond.classLink RL 10 RX2, Cond.instantiable RX2 5, Cond.initialized RX2, Cond.methodLink RL 9 yX1_init, Cond.instanceMethod yX1_init, Cond.code yX1_init cX1_init 1 none, Cond.methodLink RX1 1 objectInit, Cond.instanceMethod objectInit, Cond.code objectInit ⟨#[0xb1]⟩ 1 none, Cond.classLink RX1 9 RX0, Cond.fieldLink RX1 11 "MethodBook" "things" "[LMethodBook$Thing;", Cond.fieldLink RX1 15 "MethodBook" "foundMethod" "I", Cond.fieldLink RX1 19 "MethodBook" "foundClass" "I", Cond.methodLink RL 12 yX2_init, Cond.instanceMethod yX2_init, Cond.code yX2_init cX2_init 1 none, Cond.methodLink RX2 1 objectInit, Cond.arrayClass .boolean, Cond.fieldLink RX2 7 "MethodBookModel" "made" "[Z", Cond.arrayClass .int, Cond.fieldLink RX2 13 "MethodBookModel" "sizes" "[I"]
def wsL_law_r2 : List Cond := [Cond.fieldLink RX2 17 "MethodBookModel" "fields" "[I", Cond.methodLink RL 13 yX1_make, Cond.instanceMethod yX1_make, Cond.selects RX1 yX1_make yX1_make, Cond.code yX1_make cX1_make 4 (some .boolean), Cond.instantiable RX0 2, Cond.initialized RX0, Cond.instanceMethod yX0_init, Cond.code yX0_init cX0_init 3 none, Cond.methodLink RX0 3 objectInit, Cond.fieldLink RX0 9 "MethodBook$Thing" "fields" "[I", Cond.fieldLink RX0 15 "MethodBook$Thing" "ofFields" "Z", Cond.methodLink RL 17 yX2_make, Cond.instanceMethod yX2_make, Cond.selects RX2 yX2_make yX2_make, Cond.code yX2_make cX2_make 5 (some .boolean), Cond.methodLink RL 18 yX1_put, Cond.instanceMethod yX1_put, Cond.selects RX1 yX1_put yX1_put, Cond.code yX1_put cX1_put 5 (some .boolean), Cond.methodLink RX1 25 yX1_thingOf, Cond.instanceMethod yX1_thingOf, Cond.selects RX1 yX1_thingOf yX1_thingOf, Cond.code yX1_thingOf cX1_thingOf 2 (some (.object "MethodBook$Thing"))]
def wsL_law_r3 : List Cond := [Cond.methodLink RX1 29 yX1_isValue, Cond.instanceMethod yX1_isValue, Cond.selects RX1 yX1_isValue yX1_isValue, Cond.code yX1_isValue cX1_isValue 2 (some .boolean), Cond.methodLink RX1 89 yX1_isNumber, Cond.static yX1_isNumber, Cond.code yX1_isNumber cX1_isNumber 1 (some .boolean), Cond.methodLink RX1 75 yX1_thingMeantBy, Cond.instanceMethod yX1_thingMeantBy, Cond.selects RX1 yX1_thingMeantBy yX1_thingMeantBy, Cond.code yX1_thingMeantBy cX1_thingMeantBy 2 (some (.object "MethodBook$Thing")), Cond.methodLink RX1 53 yX1_objectNumber, Cond.static yX1_objectNumber, Cond.code yX1_objectNumber cX1_objectNumber 1 (some .int), Cond.instanceMethod yX0_setField, Cond.selects RX0 yX0_setField yX0_setField, Cond.code yX0_setField cX0_setField 3 (some .boolean), Cond.methodLink RX0 19 yX0_hasField, Cond.instanceMethod yX0_hasField, Cond.selects RX0 yX0_hasField yX0_hasField, Cond.code yX0_hasField cX0_hasField 2 (some .boolean), Cond.methodLink RL 22 yX2_put, Cond.instanceMethod yX2_put, Cond.selects RX2 yX2_put yX2_put]
def wsL_law_r4 : List Cond := [Cond.code yX2_put cX2_put 4 (some .boolean), Cond.methodLink RX2 24 yX2_isField, Cond.instanceMethod yX2_isField, Cond.selects RX2 yX2_isField yX2_isField, Cond.code yX2_isField cX2_isField 3 (some .boolean), Cond.methodLink RX2 20 yX2_isMade, Cond.instanceMethod yX2_isMade, Cond.selects RX2 yX2_isMade yX2_isMade, Cond.code yX2_isMade cX2_isMade 2 (some .boolean), Cond.methodLink RX2 28 yX2_isValue, Cond.instanceMethod yX2_isValue, Cond.selects RX2 yX2_isValue yX2_isValue, Cond.code yX2_isValue cX2_isValue 2 (some .boolean), Cond.methodLink RL 23 yX1_get, Cond.instanceMethod yX1_get, Cond.selects RX1 yX1_get yX1_get, Cond.code yX1_get cX1_get 4 (some .int), Cond.instanceMethod yX0_field, Cond.selects RX0 yX0_field yX0_field, Cond.code yX0_field cX0_field 2 (some .int), Cond.methodLink RL 27 yX2_get, Cond.instanceMethod yX2_get, Cond.selects RX2 yX2_get yX2_get, Cond.code yX2_get cX2_get 3 (some .int)]
def wsL_law_r5 : List Cond := [Cond.methodLink RL 28 yX1_size, Cond.instanceMethod yX1_size, Cond.selects RX1 yX1_size yX1_size, Cond.code yX1_size cX1_size 3 (some .int), Cond.methodLink RL 32 yX2_size, Cond.instanceMethod yX2_size, Cond.selects RX2 yX2_size yX2_size, Cond.code yX2_size cX2_size 2 (some .int), Cond.methodLink RL 33 yX1_lookUp, Cond.instanceMethod yX1_lookUp, Cond.selects RX1 yX1_lookUp yX1_lookUp, Cond.code yX1_lookUp cX1_lookUp 3 (some .int), Cond.methodLink RX1 49 yX1_goUp, Cond.instanceMethod yX1_goUp, Cond.selects RX1 yX1_goUp yX1_goUp, Cond.code yX1_goUp cX1_goUp 6 (some .int), Cond.methodLink RX1 62 yX1_classMeantBy, Cond.instanceMethod yX1_classMeantBy, Cond.selects RX1 yX1_classMeantBy yX1_classMeantBy, Cond.code yX1_classMeantBy cX1_classMeantBy 3 (some (.object "MethodBook$Thing")), Cond.instanceMethod yX0_canBeClass, Cond.selects RX0 yX0_canBeClass yX0_canBeClass, Cond.code yX0_canBeClass cX0_canBeClass 1 (some .boolean), Cond.methodLink RX1 81 yX1_hasBadDictionary]
def wsL_law_r6 : List Cond := [Cond.instanceMethod yX1_hasBadDictionary, Cond.selects RX1 yX1_hasBadDictionary yX1_hasBadDictionary, Cond.code yX1_hasBadDictionary cX1_hasBadDictionary 4 (some .boolean), Cond.methodLink RX1 85 yX1_findIn, Cond.instanceMethod yX1_findIn, Cond.selects RX1 yX1_findIn yX1_findIn, Cond.code yX1_findIn cX1_findIn 4 (some .boolean), Cond.instanceMethod yX0_placeOfMethod, Cond.selects RX0 yX0_placeOfMethod yX0_placeOfMethod, Cond.code yX0_placeOfMethod cX0_placeOfMethod 3 (some .int), Cond.methodLink RL 36 yX2_lookUp, Cond.instanceMethod yX2_lookUp, Cond.selects RX2 yX2_lookUp yX2_lookUp, Cond.code yX2_lookUp cX2_lookUp 7 (some .int), Cond.fieldLink RX2 39 "MethodBookModel" "method" "I", Cond.fieldLink RX2 43 "MethodBookModel" "where" "I", Cond.methodLink RX2 31 yX2_fieldsOf, Cond.instanceMethod yX2_fieldsOf, Cond.selects RX2 yX2_fieldsOf yX2_fieldsOf, Cond.code yX2_fieldsOf cX2_fieldsOf 2 (some .int), Cond.methodLink RX2 35 yX2_field, Cond.instanceMethod yX2_field, Cond.selects RX2 yX2_field yX2_field, Cond.code yX2_field cX2_field 3 (some .int)]
def wsL_law_r7 : List Cond := [Cond.methodLink RX2 46 yX2_isOfFields, Cond.instanceMethod yX2_isOfFields, Cond.selects RX2 yX2_isOfFields yX2_isOfFields, Cond.code yX2_isOfFields cX2_isOfFields 2 (some .boolean), Cond.methodLink RX2 49 yX2_placeOf, Cond.instanceMethod yX2_placeOf, Cond.selects RX2 yX2_placeOf yX2_placeOf, Cond.code yX2_placeOf cX2_placeOf 5 (some .int), Cond.methodLink RL 37 yX1_method, Cond.instanceMethod yX1_method, Cond.selects RX1 yX1_method yX1_method, Cond.code yX1_method cX1_method 1 (some .int), Cond.methodLink RL 41 yX2_method, Cond.instanceMethod yX2_method, Cond.selects RX2 yX2_method yX2_method, Cond.code yX2_method cX2_method 1 (some .int), Cond.methodLink RL 42 yX1_where, Cond.instanceMethod yX1_where, Cond.selects RX1 yX1_where yX1_where, Cond.code yX1_where cX1_where 1 (some .int), Cond.methodLink RL 45 yX2_where, Cond.instanceMethod yX2_where, Cond.selects RX2 yX2_where yX2_where, Cond.code yX2_where cX2_where 1 (some .int)]
def wsL_law_r8 : List Cond := [Cond.methodLink RL 46 yX1_above, Cond.instanceMethod yX1_above, Cond.selects RX1 yX1_above yX1_above, Cond.code yX1_above cX1_above 2 (some .int), Cond.methodLink RX1 56 yX1_get, Cond.methodLink RX1 59 yX1_lookUp, Cond.methodLink RL 49 yX2_above, Cond.instanceMethod yX2_above, Cond.selects RX2 yX2_above yX2_above, Cond.code yX2_above cX2_above 2 (some .int), Cond.methodLink RX2 52 yX2_lookUp, Cond.methodLink RL 50 yX1_inherits, Cond.instanceMethod yX1_inherits, Cond.selects RX1 yX1_inherits yX1_inherits, Cond.code yX1_inherits cX1_inherits 6 (some .boolean), Cond.methodLink RL 54 yX2_inherits, Cond.instanceMethod yX2_inherits, Cond.selects RX2 yX2_inherits yX2_inherits, Cond.code yX2_inherits cX2_inherits 5 (some .boolean), Cond.methodLink RL 55 yX1_become, Cond.instanceMethod yX1_become, Cond.selects RX1 yX1_become yX1_become, Cond.code yX1_become cX1_become 6 (some .int), Cond.methodLink RX1 65 yX1_objectValue]
def wsL_law_r9 : List Cond := [Cond.static yX1_objectValue, Cond.code yX1_objectValue cX1_objectValue 1 (some .int), Cond.instanceMethod yX0_exchange, Cond.selects RX0 yX0_exchange yX0_exchange, Cond.code yX0_exchange cX0_exchange 5 (some .int), Cond.methodLink RL 58 yX2_become, Cond.instanceMethod yX2_become, Cond.selects RX2 yX2_become yX2_become, Cond.code yX2_become cX2_become 7 (some .int), Cond.methodLink RL 59 yX1_users, Cond.instanceMethod yX1_users, Cond.selects RX1 yX1_users yX1_users, Cond.code yX1_users cX1_users 5 (some .int), Cond.methodLink RL 62 yX2_users, Cond.instanceMethod yX2_users, Cond.selects RX2 yX2_users yX2_users, Cond.code yX2_users cX2_users 4 (some .int), Cond.methodLink RL 63 yX1_senders, Cond.instanceMethod yX1_senders, Cond.selects RX1 yX1_senders yX1_senders, Cond.code yX1_senders cX1_senders 6 (some .int), Cond.methodLink RL 66 yX2_senders, Cond.instanceMethod yX2_senders, Cond.selects RX2 yX2_senders yX2_senders]
def wsL_law_r10 : List Cond := [Cond.code yX2_senders cX2_senders 4 (some .int)]
def wsL_law : List Cond := (wsL_law_r1 ++ (wsL_law_r2 ++ (wsL_law_r3 ++ (wsL_law_r4 ++ (wsL_law_r5 ++ (wsL_law_r6 ++ (wsL_law_r7 ++ (wsL_law_r8 ++ (wsL_law_r9 ++ wsL_law_r10))))))))) ++ wsX10 ++ wsX20 ++ wsX00 ++ ([] : List Cond)
set_option maxRecDepth 20000 in
theorem wsL_law_in : ∀ w ∈ wsL_law, w ∈ lw_tbl := fun w h => (goodIn_p wsL_law [28, 31, 174, 47, 51, 196, 66, 70, 74, 77, 81, 84, 88, 92, 200, 204, 208, 212, 96, 100, 216, 104, 220, 108, 112, 116, 120, 124, 128, 132, 224, 228, 232, 236, 240, 136, 244, 140, 248, 144, 252, 150, 257, 154, 157, 161, 261, 165, 265, 169, 269] (by decide +kernel) (by decide +kernel) w h).1
theorem inlX0 : ∀ w ∈ wsX00, w ∈ wsL_law := fun _ h => List.mem_append_left _ (List.mem_append_right _ h)
theorem inX0 : ∀ w ∈ wsX00, w ∈ lw_tbl := fun w h => wsL_law_in w (inlX0 w h)
theorem inlX1 : ∀ w ∈ wsX10, w ∈ wsL_law := fun _ h => List.mem_append_left _ (List.mem_append_left _ (List.mem_append_left _ (List.mem_append_right _ h)))
theorem inX1 : ∀ w ∈ wsX10, w ∈ lw_tbl := fun w h => wsL_law_in w (inlX1 w h)
theorem inlX2 : ∀ w ∈ wsX20, w ∈ wsL_law := fun _ h => List.mem_append_left _ (List.mem_append_left _ (List.mem_append_right _ h))
theorem inX2 : ∀ w ∈ wsX20, w ∈ lw_tbl := fun w h => wsL_law_in w (inlX2 w h)
theorem dX0_init_0 : decode cX0_init 0 = .ok (.aload_n 0, 1) := by decide +kernel
theorem dX0_init_1 : decode cX0_init 1 = .ok (.invokespecial 3, 3) := by decide +kernel
theorem dX0_init_4 : decode cX0_init 4 = .ok (.aload_n 0, 1) := by decide +kernel
theorem dX0_init_5 : decode cX0_init 5 = .ok (.iload_n 1, 1) := by decide +kernel
theorem dX0_init_6 : decode cX0_init 6 = .ok (.newarray .int, 2) := by decide +kernel
theorem dX0_init_8 : decode cX0_init 8 = .ok (.putfield 9, 3) := by decide +kernel
theorem dX0_init_11 : decode cX0_init 11 = .ok (.aload_n 0, 1) := by decide +kernel
theorem dX0_init_12 : decode cX0_init 12 = .ok (.iload_n 2, 1) := by decide +kernel
theorem dX0_init_13 : decode cX0_init 13 = .ok (.putfield 15, 3) := by decide +kernel
theorem dX0_init_16 : decode cX0_init 16 = .ok (.return_, 1) := by decide +kernel
theorem dX0_canBeClass_0 : decode cX0_canBeClass 0 = .ok (.aload_n 0, 1) := by decide +kernel
theorem dX0_canBeClass_1 : decode cX0_canBeClass 1 = .ok (.getfield 9, 3) := by decide +kernel
theorem dX0_canBeClass_4 : decode cX0_canBeClass 4 = .ok (.arraylength, 1) := by decide +kernel
theorem dX0_canBeClass_5 : decode cX0_canBeClass 5 = .ok (.iconst 2, 1) := by decide +kernel
theorem dX0_canBeClass_6 : decode cX0_canBeClass 6 = .ok (.if_icmp .lt 7, 3) := by decide +kernel
theorem dX0_canBeClass_9 : decode cX0_canBeClass 9 = .ok (.iconst 1, 1) := by decide +kernel
theorem dX0_canBeClass_10 : decode cX0_canBeClass 10 = .ok (.goto 4, 3) := by decide +kernel
theorem dX0_canBeClass_13 : decode cX0_canBeClass 13 = .ok (.iconst 0, 1) := by decide +kernel
theorem dX0_canBeClass_14 : decode cX0_canBeClass 14 = .ok (.ireturn, 1) := by decide +kernel
theorem dX0_hasField_0 : decode cX0_hasField 0 = .ok (.iload_n 1, 1) := by decide +kernel
theorem dX0_hasField_1 : decode cX0_hasField 1 = .ok (.ifCond .lt 16, 3) := by decide +kernel
theorem dX0_hasField_4 : decode cX0_hasField 4 = .ok (.iload_n 1, 1) := by decide +kernel
theorem dX0_hasField_5 : decode cX0_hasField 5 = .ok (.aload_n 0, 1) := by decide +kernel
theorem dX0_hasField_6 : decode cX0_hasField 6 = .ok (.getfield 9, 3) := by decide +kernel
theorem dX0_hasField_9 : decode cX0_hasField 9 = .ok (.arraylength, 1) := by decide +kernel
theorem dX0_hasField_10 : decode cX0_hasField 10 = .ok (.if_icmp .ge 7, 3) := by decide +kernel
theorem dX0_hasField_13 : decode cX0_hasField 13 = .ok (.iconst 1, 1) := by decide +kernel
theorem dX0_hasField_14 : decode cX0_hasField 14 = .ok (.goto 4, 3) := by decide +kernel
theorem dX0_hasField_17 : decode cX0_hasField 17 = .ok (.iconst 0, 1) := by decide +kernel
theorem dX0_hasField_18 : decode cX0_hasField 18 = .ok (.ireturn, 1) := by decide +kernel
set_option maxRecDepth 20000 in
theorem ggX0_field_X0_hasField : GoodIn wsX0_field wsX0_hasField := goodIn_r _ [6, 1, 7, 8] (by decide +kernel) (by decide +kernel)
set_option maxRecDepth 20000 in
theorem gX0_field_X0_hasField : GoodIn wsX0_field (wsV RX0 19 RX0 yX0_hasField wsX0_hasField) := goodIn_app (goodIn_of _ (by decide +kernel)) ggX0_field_X0_hasField
theorem dX0_field_0 : decode cX0_field 0 = .ok (.aload_n 0, 1) := by decide +kernel
theorem dX0_field_1 : decode cX0_field 1 = .ok (.iload_n 1, 1) := by decide +kernel
theorem dX0_field_2 : decode cX0_field 2 = .ok (.invokevirtual 19, 3) := by decide +kernel
theorem dX0_field_5 : decode cX0_field 5 = .ok (.ifCond .eq 12, 3) := by decide +kernel
theorem dX0_field_8 : decode cX0_field 8 = .ok (.aload_n 0, 1) := by decide +kernel
theorem dX0_field_9 : decode cX0_field 9 = .ok (.getfield 9, 3) := by decide +kernel
theorem dX0_field_12 : decode cX0_field 12 = .ok (.iload_n 1, 1) := by decide +kernel
theorem dX0_field_13 : decode cX0_field 13 = .ok (.iaload, 1) := by decide +kernel
theorem dX0_field_14 : decode cX0_field 14 = .ok (.goto 4, 3) := by decide +kernel
theorem dX0_field_17 : decode cX0_field 17 = .ok (.iconst 0, 1) := by decide +kernel
theorem dX0_field_18 : decode cX0_field 18 = .ok (.ireturn, 1) := by decide +kernel
set_option maxRecDepth 20000 in
theorem ggX0_setField_X0_hasField : GoodIn wsX0_setField wsX0_hasField := goodIn_r _ [6, 1, 7, 8] (by decide +kernel) (by decide +kernel)
set_option maxRecDepth 20000 in
theorem gX0_setField_X0_hasField : GoodIn wsX0_setField (wsV RX0 19 RX0 yX0_hasField wsX0_hasField) := goodIn_app (goodIn_of _ (by decide +kernel)) ggX0_setField_X0_hasField
theorem dX0_setField_0 : decode cX0_setField 0 = .ok (.aload_n 0, 1) := by decide +kernel
theorem dX0_setField_1 : decode cX0_setField 1 = .ok (.iload_n 1, 1) := by decide +kernel
theorem dX0_setField_2 : decode cX0_setField 2 = .ok (.invokevirtual 19, 3) := by decide +kernel
theorem dX0_setField_5 : decode cX0_setField 5 = .ok (.ifCond .ne 5, 3) := by decide +kernel
theorem dX0_setField_8 : decode cX0_setField 8 = .ok (.iconst 0, 1) := by decide +kernel
theorem dX0_setField_9 : decode cX0_setField 9 = .ok (.ireturn, 1) := by decide +kernel
theorem dX0_setField_10 : decode cX0_setField 10 = .ok (.aload_n 0, 1) := by decide +kernel
theorem dX0_setField_11 : decode cX0_setField 11 = .ok (.getfield 9, 3) := by decide +kernel
theorem dX0_setField_14 : decode cX0_setField 14 = .ok (.iload_n 1, 1) := by decide +kernel
theorem dX0_setField_15 : decode cX0_setField 15 = .ok (.iload_n 2, 1) := by decide +kernel
theorem dX0_setField_16 : decode cX0_setField 16 = .ok (.iastore, 1) := by decide +kernel
theorem dX0_setField_17 : decode cX0_setField 17 = .ok (.iconst 1, 1) := by decide +kernel
theorem dX0_setField_18 : decode cX0_setField 18 = .ok (.ireturn, 1) := by decide +kernel
theorem dX0_placeOfMethod_0 : decode cX0_placeOfMethod 0 = .ok (.iconst 0, 1) := by decide +kernel
theorem dX0_placeOfMethod_1 : decode cX0_placeOfMethod 1 = .ok (.istore_n 2, 1) := by decide +kernel
theorem dX0_placeOfMethod_2 : decode cX0_placeOfMethod 2 = .ok (.iload_n 2, 1) := by decide +kernel
theorem dX0_placeOfMethod_3 : decode cX0_placeOfMethod 3 = .ok (.iconst 1, 1) := by decide +kernel
theorem dX0_placeOfMethod_4 : decode cX0_placeOfMethod 4 = .ok (.iadd, 1) := by decide +kernel
theorem dX0_placeOfMethod_5 : decode cX0_placeOfMethod 5 = .ok (.aload_n 0, 1) := by decide +kernel
theorem dX0_placeOfMethod_6 : decode cX0_placeOfMethod 6 = .ok (.getfield 9, 3) := by decide +kernel
theorem dX0_placeOfMethod_9 : decode cX0_placeOfMethod 9 = .ok (.arraylength, 1) := by decide +kernel
theorem dX0_placeOfMethod_10 : decode cX0_placeOfMethod 10 = .ok (.if_icmp .ge 23, 3) := by decide +kernel
theorem dX0_placeOfMethod_13 : decode cX0_placeOfMethod 13 = .ok (.aload_n 0, 1) := by decide +kernel
theorem dX0_placeOfMethod_14 : decode cX0_placeOfMethod 14 = .ok (.getfield 9, 3) := by decide +kernel
theorem dX0_placeOfMethod_17 : decode cX0_placeOfMethod 17 = .ok (.iload_n 2, 1) := by decide +kernel
theorem dX0_placeOfMethod_18 : decode cX0_placeOfMethod 18 = .ok (.iaload, 1) := by decide +kernel
theorem dX0_placeOfMethod_19 : decode cX0_placeOfMethod 19 = .ok (.iload_n 1, 1) := by decide +kernel
theorem dX0_placeOfMethod_20 : decode cX0_placeOfMethod 20 = .ok (.if_icmp .ne 7, 3) := by decide +kernel
theorem dX0_placeOfMethod_23 : decode cX0_placeOfMethod 23 = .ok (.iload_n 2, 1) := by decide +kernel
theorem dX0_placeOfMethod_24 : decode cX0_placeOfMethod 24 = .ok (.iconst 1, 1) := by decide +kernel
theorem dX0_placeOfMethod_25 : decode cX0_placeOfMethod 25 = .ok (.iadd, 1) := by decide +kernel
theorem dX0_placeOfMethod_26 : decode cX0_placeOfMethod 26 = .ok (.ireturn, 1) := by decide +kernel
theorem dX0_placeOfMethod_27 : decode cX0_placeOfMethod 27 = .ok (.iinc 2 2, 3) := by decide +kernel
theorem dX0_placeOfMethod_30 : decode cX0_placeOfMethod 30 = .ok (.goto (-28), 3) := by decide +kernel
theorem dX0_placeOfMethod_33 : decode cX0_placeOfMethod 33 = .ok (.iconst (-1), 1) := by decide +kernel
theorem dX0_placeOfMethod_34 : decode cX0_placeOfMethod 34 = .ok (.ireturn, 1) := by decide +kernel
theorem dX0_exchange_0 : decode cX0_exchange 0 = .ok (.iconst 0, 1) := by decide +kernel
theorem dX0_exchange_1 : decode cX0_exchange 1 = .ok (.istore_n 3, 1) := by decide +kernel
theorem dX0_exchange_2 : decode cX0_exchange 2 = .ok (.iconst 0, 1) := by decide +kernel
theorem dX0_exchange_3 : decode cX0_exchange 3 = .ok (.istore 4, 2) := by decide +kernel
theorem dX0_exchange_5 : decode cX0_exchange 5 = .ok (.iload 4, 2) := by decide +kernel
theorem dX0_exchange_7 : decode cX0_exchange 7 = .ok (.aload_n 0, 1) := by decide +kernel
theorem dX0_exchange_8 : decode cX0_exchange 8 = .ok (.getfield 9, 3) := by decide +kernel
theorem dX0_exchange_11 : decode cX0_exchange 11 = .ok (.arraylength, 1) := by decide +kernel
theorem dX0_exchange_12 : decode cX0_exchange 12 = .ok (.if_icmp .ge 56, 3) := by decide +kernel
theorem dX0_exchange_15 : decode cX0_exchange 15 = .ok (.aload_n 0, 1) := by decide +kernel
theorem dX0_exchange_16 : decode cX0_exchange 16 = .ok (.getfield 9, 3) := by decide +kernel
theorem dX0_exchange_19 : decode cX0_exchange 19 = .ok (.iload 4, 2) := by decide +kernel
theorem dX0_exchange_21 : decode cX0_exchange 21 = .ok (.iaload, 1) := by decide +kernel
theorem dX0_exchange_22 : decode cX0_exchange 22 = .ok (.iload_n 1, 1) := by decide +kernel
theorem dX0_exchange_23 : decode cX0_exchange 23 = .ok (.if_icmp .ne 17, 3) := by decide +kernel
theorem dX0_exchange_26 : decode cX0_exchange 26 = .ok (.aload_n 0, 1) := by decide +kernel
theorem dX0_exchange_27 : decode cX0_exchange 27 = .ok (.getfield 9, 3) := by decide +kernel
theorem dX0_exchange_30 : decode cX0_exchange 30 = .ok (.iload 4, 2) := by decide +kernel
theorem dX0_exchange_32 : decode cX0_exchange 32 = .ok (.iload_n 2, 1) := by decide +kernel
theorem dX0_exchange_33 : decode cX0_exchange 33 = .ok (.iastore, 1) := by decide +kernel
theorem dX0_exchange_34 : decode cX0_exchange 34 = .ok (.iinc 3 1, 3) := by decide +kernel
theorem dX0_exchange_37 : decode cX0_exchange 37 = .ok (.goto 25, 3) := by decide +kernel
theorem dX0_exchange_40 : decode cX0_exchange 40 = .ok (.aload_n 0, 1) := by decide +kernel
theorem dX0_exchange_41 : decode cX0_exchange 41 = .ok (.getfield 9, 3) := by decide +kernel
theorem dX0_exchange_44 : decode cX0_exchange 44 = .ok (.iload 4, 2) := by decide +kernel
theorem dX0_exchange_46 : decode cX0_exchange 46 = .ok (.iaload, 1) := by decide +kernel
theorem dX0_exchange_47 : decode cX0_exchange 47 = .ok (.iload_n 2, 1) := by decide +kernel
theorem dX0_exchange_48 : decode cX0_exchange 48 = .ok (.if_icmp .ne 14, 3) := by decide +kernel
theorem dX0_exchange_51 : decode cX0_exchange 51 = .ok (.aload_n 0, 1) := by decide +kernel
theorem dX0_exchange_52 : decode cX0_exchange 52 = .ok (.getfield 9, 3) := by decide +kernel
theorem dX0_exchange_55 : decode cX0_exchange 55 = .ok (.iload 4, 2) := by decide +kernel
theorem dX0_exchange_57 : decode cX0_exchange 57 = .ok (.iload_n 1, 1) := by decide +kernel
theorem dX0_exchange_58 : decode cX0_exchange 58 = .ok (.iastore, 1) := by decide +kernel
theorem dX0_exchange_59 : decode cX0_exchange 59 = .ok (.iinc 3 1, 3) := by decide +kernel
theorem dX0_exchange_62 : decode cX0_exchange 62 = .ok (.iinc 4 1, 3) := by decide +kernel
theorem dX0_exchange_65 : decode cX0_exchange 65 = .ok (.goto (-60), 3) := by decide +kernel
theorem dX0_exchange_68 : decode cX0_exchange 68 = .ok (.iload_n 3, 1) := by decide +kernel
theorem dX0_exchange_69 : decode cX0_exchange 69 = .ok (.ireturn, 1) := by decide +kernel
theorem dX1_init_0 : decode cX1_init 0 = .ok (.aload_n 0, 1) := by decide +kernel
theorem dX1_init_1 : decode cX1_init 1 = .ok (.invokespecial 1, 3) := by decide +kernel
theorem dX1_init_4 : decode cX1_init 4 = .ok (.aload_n 0, 1) := by decide +kernel
theorem dX1_init_5 : decode cX1_init 5 = .ok (.sipush 401, 3) := by decide +kernel
theorem dX1_init_8 : decode cX1_init 8 = .ok (.anewarray 9, 3) := by decide +kernel
theorem dX1_init_11 : decode cX1_init 11 = .ok (.putfield 11, 3) := by decide +kernel
theorem dX1_init_14 : decode cX1_init 14 = .ok (.aload_n 0, 1) := by decide +kernel
theorem dX1_init_15 : decode cX1_init 15 = .ok (.iconst 0, 1) := by decide +kernel
theorem dX1_init_16 : decode cX1_init 16 = .ok (.putfield 15, 3) := by decide +kernel
theorem dX1_init_19 : decode cX1_init 19 = .ok (.aload_n 0, 1) := by decide +kernel
theorem dX1_init_20 : decode cX1_init 20 = .ok (.iconst 0, 1) := by decide +kernel
theorem dX1_init_21 : decode cX1_init 21 = .ok (.putfield 19, 3) := by decide +kernel
theorem dX1_init_24 : decode cX1_init 24 = .ok (.return_, 1) := by decide +kernel
set_option maxRecDepth 20000 in
theorem ggX1_make_X0_init : GoodIn wsX1_make wsX0_init := goodIn_r _ [6, 7, 8, 9, 10, 11, 12, 16, 17] (by decide +kernel) (by decide +kernel)
set_option maxRecDepth 20000 in
theorem gX1_make_X0_init_n22 : GoodIn wsX1_make (wsX0_init) := ggX1_make_X0_init
theorem dX1_make_0 : decode cX1_make 0 = .ok (.iload_n 1, 1) := by decide +kernel
theorem dX1_make_1 : decode cX1_make 1 = .ok (.iconst 1, 1) := by decide +kernel
theorem dX1_make_2 : decode cX1_make 2 = .ok (.if_icmp .lt 20, 3) := by decide +kernel
theorem dX1_make_5 : decode cX1_make 5 = .ok (.iload_n 1, 1) := by decide +kernel
theorem dX1_make_6 : decode cX1_make 6 = .ok (.sipush 400, 3) := by decide +kernel
theorem dX1_make_9 : decode cX1_make 9 = .ok (.if_icmp .gt 13, 3) := by decide +kernel
theorem dX1_make_12 : decode cX1_make 12 = .ok (.iload_n 2, 1) := by decide +kernel
theorem dX1_make_13 : decode cX1_make 13 = .ok (.ifCond .lt 9, 3) := by decide +kernel
theorem dX1_make_16 : decode cX1_make 16 = .ok (.iload_n 2, 1) := by decide +kernel
theorem dX1_make_17 : decode cX1_make 17 = .ok (.bipush 40, 2) := by decide +kernel
theorem dX1_make_19 : decode cX1_make 19 = .ok (.if_icmp .le 5, 3) := by decide +kernel
theorem dX1_make_22 : decode cX1_make 22 = .ok (.iconst 0, 1) := by decide +kernel
theorem dX1_make_23 : decode cX1_make 23 = .ok (.ireturn, 1) := by decide +kernel
theorem dX1_make_24 : decode cX1_make 24 = .ok (.aload_n 0, 1) := by decide +kernel
theorem dX1_make_25 : decode cX1_make 25 = .ok (.getfield 11, 3) := by decide +kernel
theorem dX1_make_28 : decode cX1_make 28 = .ok (.iload_n 1, 1) := by decide +kernel
theorem dX1_make_29 : decode cX1_make 29 = .ok (.new 9, 3) := by decide +kernel
theorem dX1_make_32 : decode cX1_make 32 = .ok (.dup, 1) := by decide +kernel
theorem dX1_make_33 : decode cX1_make 33 = .ok (.iload_n 3, 1) := by decide +kernel
theorem dX1_make_34 : decode cX1_make 34 = .ok (.ifCond .eq 7, 3) := by decide +kernel
theorem dX1_make_37 : decode cX1_make 37 = .ok (.iload_n 2, 1) := by decide +kernel
theorem dX1_make_38 : decode cX1_make 38 = .ok (.goto 4, 3) := by decide +kernel
theorem dX1_make_41 : decode cX1_make 41 = .ok (.iconst 0, 1) := by decide +kernel
theorem dX1_make_42 : decode cX1_make 42 = .ok (.iload_n 3, 1) := by decide +kernel
theorem dX1_make_43 : decode cX1_make 43 = .ok (.invokespecial 22, 3) := by decide +kernel
theorem dX1_make_46 : decode cX1_make 46 = .ok (.aastore, 1) := by decide +kernel
theorem dX1_make_47 : decode cX1_make 47 = .ok (.iconst 1, 1) := by decide +kernel
theorem dX1_make_48 : decode cX1_make 48 = .ok (.ireturn, 1) := by decide +kernel
set_option maxRecDepth 20000 in
theorem ggX1_put_X1_thingOf : GoodIn wsX1_put wsX1_thingOf := goodIn_r _ [5, 6, 30, 31, 32] (by decide +kernel) (by decide +kernel)
set_option maxRecDepth 20000 in
theorem gX1_put_X1_thingOf : GoodIn wsX1_put (wsV RX1 25 RX1 yX1_thingOf wsX1_thingOf) := goodIn_app (goodIn_of _ (by decide +kernel)) ggX1_put_X1_thingOf
set_option maxRecDepth 20000 in
theorem ggX1_put_X1_isValue : GoodIn wsX1_put wsX1_isValue := goodIn_r _ [10, 11, 12, 4, 13, 14, 15, 16, 17, 18, 19, 20, 1, 2, 3, 5, 6, 30, 31, 32] (by decide +kernel) (by decide +kernel)
set_option maxRecDepth 20000 in
theorem gX1_put_X1_isValue : GoodIn wsX1_put (wsV RX1 29 RX1 yX1_isValue wsX1_isValue) := goodIn_app (goodIn_of _ (by decide +kernel)) ggX1_put_X1_isValue
set_option maxRecDepth 20000 in
theorem ggX1_put_X0_setField : GoodIn wsX1_put wsX0_setField := goodIn_r _ [24, 25, 26, 27, 28, 22, 29, 33, 34] (by decide +kernel) (by decide +kernel)
set_option maxRecDepth 20000 in
theorem gX1_put_X0_setField_n33 : GoodIn wsX1_put (wsX0_setField) := ggX1_put_X0_setField
theorem dX1_put_0 : decode cX1_put 0 = .ok (.aload_n 0, 1) := by decide +kernel
theorem dX1_put_1 : decode cX1_put 1 = .ok (.iload_n 1, 1) := by decide +kernel
theorem dX1_put_2 : decode cX1_put 2 = .ok (.invokevirtual 25, 3) := by decide +kernel
theorem dX1_put_5 : decode cX1_put 5 = .ok (.astore 4, 2) := by decide +kernel
theorem dX1_put_7 : decode cX1_put 7 = .ok (.aload 4, 2) := by decide +kernel
theorem dX1_put_9 : decode cX1_put 9 = .ok (.ifnull 11, 3) := by decide +kernel
theorem dX1_put_12 : decode cX1_put 12 = .ok (.aload_n 0, 1) := by decide +kernel
theorem dX1_put_13 : decode cX1_put 13 = .ok (.iload_n 3, 1) := by decide +kernel
theorem dX1_put_14 : decode cX1_put 14 = .ok (.invokevirtual 29, 3) := by decide +kernel
theorem dX1_put_17 : decode cX1_put 17 = .ok (.ifCond .ne 5, 3) := by decide +kernel
theorem dX1_put_20 : decode cX1_put 20 = .ok (.iconst 0, 1) := by decide +kernel
theorem dX1_put_21 : decode cX1_put 21 = .ok (.ireturn, 1) := by decide +kernel
theorem dX1_put_22 : decode cX1_put 22 = .ok (.aload 4, 2) := by decide +kernel
theorem dX1_put_24 : decode cX1_put 24 = .ok (.iload_n 2, 1) := by decide +kernel
theorem dX1_put_25 : decode cX1_put 25 = .ok (.iload_n 3, 1) := by decide +kernel
theorem dX1_put_26 : decode cX1_put 26 = .ok (.invokevirtual 33, 3) := by decide +kernel
theorem dX1_put_29 : decode cX1_put 29 = .ok (.ireturn, 1) := by decide +kernel
set_option maxRecDepth 20000 in
theorem ggX1_get_X1_thingOf : GoodIn wsX1_get wsX1_thingOf := goodIn_r _ [5, 6, 16, 17, 18] (by decide +kernel) (by decide +kernel)
set_option maxRecDepth 20000 in
theorem gX1_get_X1_thingOf : GoodIn wsX1_get (wsV RX1 25 RX1 yX1_thingOf wsX1_thingOf) := goodIn_app (goodIn_of _ (by decide +kernel)) ggX1_get_X1_thingOf
set_option maxRecDepth 20000 in
theorem ggX1_get_X0_field : GoodIn wsX1_get wsX0_field := goodIn_r _ [10, 11, 12, 13, 14, 8, 15, 19, 20] (by decide +kernel) (by decide +kernel)
set_option maxRecDepth 20000 in
theorem gX1_get_X0_field_n37 : GoodIn wsX1_get (wsX0_field) := ggX1_get_X0_field
theorem dX1_get_0 : decode cX1_get 0 = .ok (.aload_n 0, 1) := by decide +kernel
theorem dX1_get_1 : decode cX1_get 1 = .ok (.iload_n 1, 1) := by decide +kernel
theorem dX1_get_2 : decode cX1_get 2 = .ok (.invokevirtual 25, 3) := by decide +kernel
theorem dX1_get_5 : decode cX1_get 5 = .ok (.astore_n 3, 1) := by decide +kernel
theorem dX1_get_6 : decode cX1_get 6 = .ok (.aload_n 3, 1) := by decide +kernel
theorem dX1_get_7 : decode cX1_get 7 = .ok (.ifnonnull 7, 3) := by decide +kernel
theorem dX1_get_10 : decode cX1_get 10 = .ok (.iconst 0, 1) := by decide +kernel
theorem dX1_get_11 : decode cX1_get 11 = .ok (.goto 8, 3) := by decide +kernel
theorem dX1_get_14 : decode cX1_get 14 = .ok (.aload_n 3, 1) := by decide +kernel
theorem dX1_get_15 : decode cX1_get 15 = .ok (.iload_n 2, 1) := by decide +kernel
theorem dX1_get_16 : decode cX1_get 16 = .ok (.invokevirtual 37, 3) := by decide +kernel
theorem dX1_get_19 : decode cX1_get 19 = .ok (.ireturn, 1) := by decide +kernel
set_option maxRecDepth 20000 in
theorem ggX1_size_X1_thingOf : GoodIn wsX1_size wsX1_thingOf := goodIn_r _ [5, 6, 9, 10, 11] (by decide +kernel) (by decide +kernel)
set_option maxRecDepth 20000 in
theorem gX1_size_X1_thingOf : GoodIn wsX1_size (wsV RX1 25 RX1 yX1_thingOf wsX1_thingOf) := goodIn_app (goodIn_of _ (by decide +kernel)) ggX1_size_X1_thingOf
theorem dX1_size_0 : decode cX1_size 0 = .ok (.aload_n 0, 1) := by decide +kernel
theorem dX1_size_1 : decode cX1_size 1 = .ok (.iload_n 1, 1) := by decide +kernel
theorem dX1_size_2 : decode cX1_size 2 = .ok (.invokevirtual 25, 3) := by decide +kernel
theorem dX1_size_5 : decode cX1_size 5 = .ok (.astore_n 2, 1) := by decide +kernel
theorem dX1_size_6 : decode cX1_size 6 = .ok (.aload_n 2, 1) := by decide +kernel
theorem dX1_size_7 : decode cX1_size 7 = .ok (.ifnull 10, 3) := by decide +kernel
theorem dX1_size_10 : decode cX1_size 10 = .ok (.aload_n 2, 1) := by decide +kernel
theorem dX1_size_11 : decode cX1_size 11 = .ok (.getfield 41, 3) := by decide +kernel
theorem dX1_size_14 : decode cX1_size 14 = .ok (.ifCond .ne 7, 3) := by decide +kernel
theorem dX1_size_17 : decode cX1_size 17 = .ok (.iconst (-1), 1) := by decide +kernel
theorem dX1_size_18 : decode cX1_size 18 = .ok (.goto 8, 3) := by decide +kernel
theorem dX1_size_21 : decode cX1_size 21 = .ok (.aload_n 2, 1) := by decide +kernel
theorem dX1_size_22 : decode cX1_size 22 = .ok (.getfield 45, 3) := by decide +kernel
theorem dX1_size_25 : decode cX1_size 25 = .ok (.arraylength, 1) := by decide +kernel
theorem dX1_size_26 : decode cX1_size 26 = .ok (.ireturn, 1) := by decide +kernel
set_option maxRecDepth 20000 in
theorem ggX1_lookUp_X1_isValue : GoodIn wsX1_lookUp wsX1_isValue := goodIn_r _ [7, 8, 9, 6, 10, 11, 12, 13, 14, 15, 16, 17, 18, 19, 20, 21, 22, 54, 55, 56] (by decide +kernel) (by decide +kernel)
set_option maxRecDepth 20000 in
theorem gX1_lookUp_X1_isValue : GoodIn wsX1_lookUp (wsV RX1 29 RX1 yX1_isValue wsX1_isValue) := goodIn_app (goodIn_of _ (by decide +kernel)) ggX1_lookUp_X1_isValue
set_option maxRecDepth 20000 in
theorem ggX1_lookUp_X1_goUp : GoodIn wsX1_lookUp wsX1_goUp := goodIn_r _ [26, 2, 27, 28, 29, 6, 30, 11, 12, 13, 14, 8, 9, 10, 15, 16, 17, 18, 19, 20, 21, 22, 31, 32, 33, 34, 35, 36, 37, 38, 39, 40, 41, 42, 43, 44, 45, 46, 47, 48, 49, 50, 1, 51, 52, 53, 54, 55, 56, 57, 58] (by decide +kernel) (by decide +kernel)
set_option maxRecDepth 20000 in
theorem gX1_lookUp_X1_goUp : GoodIn wsX1_lookUp (wsV RX1 49 RX1 yX1_goUp wsX1_goUp) := goodIn_app (goodIn_of _ (by decide +kernel)) ggX1_lookUp_X1_goUp
theorem dX1_lookUp_0 : decode cX1_lookUp 0 = .ok (.aload_n 0, 1) := by decide +kernel
theorem dX1_lookUp_1 : decode cX1_lookUp 1 = .ok (.iconst 0, 1) := by decide +kernel
theorem dX1_lookUp_2 : decode cX1_lookUp 2 = .ok (.putfield 15, 3) := by decide +kernel
theorem dX1_lookUp_5 : decode cX1_lookUp 5 = .ok (.aload_n 0, 1) := by decide +kernel
theorem dX1_lookUp_6 : decode cX1_lookUp 6 = .ok (.iconst 0, 1) := by decide +kernel
theorem dX1_lookUp_7 : decode cX1_lookUp 7 = .ok (.putfield 19, 3) := by decide +kernel
theorem dX1_lookUp_10 : decode cX1_lookUp 10 = .ok (.aload_n 0, 1) := by decide +kernel
theorem dX1_lookUp_11 : decode cX1_lookUp 11 = .ok (.iload_n 1, 1) := by decide +kernel
theorem dX1_lookUp_12 : decode cX1_lookUp 12 = .ok (.invokevirtual 29, 3) := by decide +kernel
theorem dX1_lookUp_15 : decode cX1_lookUp 15 = .ok (.ifCond .eq 11, 3) := by decide +kernel
theorem dX1_lookUp_18 : decode cX1_lookUp 18 = .ok (.aload_n 0, 1) := by decide +kernel
theorem dX1_lookUp_19 : decode cX1_lookUp 19 = .ok (.iload_n 2, 1) := by decide +kernel
theorem dX1_lookUp_20 : decode cX1_lookUp 20 = .ok (.invokevirtual 29, 3) := by decide +kernel
theorem dX1_lookUp_23 : decode cX1_lookUp 23 = .ok (.ifCond .ne 6, 3) := by decide +kernel
theorem dX1_lookUp_26 : decode cX1_lookUp 26 = .ok (.bipush (-2), 2) := by decide +kernel
theorem dX1_lookUp_28 : decode cX1_lookUp 28 = .ok (.ireturn, 1) := by decide +kernel
theorem dX1_lookUp_29 : decode cX1_lookUp 29 = .ok (.aload_n 0, 1) := by decide +kernel
theorem dX1_lookUp_30 : decode cX1_lookUp 30 = .ok (.iload_n 1, 1) := by decide +kernel
theorem dX1_lookUp_31 : decode cX1_lookUp 31 = .ok (.iload_n 2, 1) := by decide +kernel
theorem dX1_lookUp_32 : decode cX1_lookUp 32 = .ok (.invokevirtual 49, 3) := by decide +kernel
theorem dX1_lookUp_35 : decode cX1_lookUp 35 = .ok (.ireturn, 1) := by decide +kernel
theorem dX1_method_0 : decode cX1_method 0 = .ok (.aload_n 0, 1) := by decide +kernel
theorem dX1_method_1 : decode cX1_method 1 = .ok (.getfield 15, 3) := by decide +kernel
theorem dX1_method_4 : decode cX1_method 4 = .ok (.ireturn, 1) := by decide +kernel
theorem dX1_where_0 : decode cX1_where 0 = .ok (.aload_n 0, 1) := by decide +kernel
theorem dX1_where_1 : decode cX1_where 1 = .ok (.getfield 19, 3) := by decide +kernel
theorem dX1_where_4 : decode cX1_where 4 = .ok (.ireturn, 1) := by decide +kernel
set_option maxRecDepth 20000 in
theorem ggX1_above_X1_objectNumber : GoodIn wsX1_above wsX1_objectNumber := goodIn_r _ [5] (by decide +kernel) (by decide +kernel)
set_option maxRecDepth 20000 in
theorem gX1_above_X1_objectNumber : GoodIn wsX1_above (va_wsS RX1 53 yX1_objectNumber wsX1_objectNumber) := goodIn_app (goodIn_of _ (by decide +kernel)) ggX1_above_X1_objectNumber
set_option maxRecDepth 20000 in
theorem ggX1_above_X1_get : GoodIn wsX1_above wsX1_get := goodIn_r _ [9, 10, 11, 12, 4, 13, 14, 15, 16, 17, 18, 19, 20, 21, 22, 23, 62, 63, 64, 65, 66] (by decide +kernel) (by decide +kernel)
set_option maxRecDepth 20000 in
theorem gX1_above_X1_get : GoodIn wsX1_above (wsV RX1 56 RX1 yX1_get wsX1_get) := goodIn_app (goodIn_of _ (by decide +kernel)) ggX1_above_X1_get
set_option maxRecDepth 20000 in
theorem ggX1_above_X1_lookUp : GoodIn wsX1_above wsX1_lookUp := goodIn_r _ [27, 28, 1, 29, 30, 31, 4, 32, 33, 34, 35, 36, 37, 38, 39, 2, 3, 5, 10, 11, 12, 13, 14, 40, 41, 42, 43, 44, 45, 46, 47, 48, 16, 49, 50, 19, 51, 52, 53, 54, 15, 17, 18, 20, 21, 22, 23, 55, 56, 57, 58, 59, 60, 61, 62, 63, 64, 65, 66] (by decide +kernel) (by decide +kernel)
set_option maxRecDepth 20000 in
theorem gX1_above_X1_lookUp : GoodIn wsX1_above (wsV RX1 59 RX1 yX1_lookUp wsX1_lookUp) := goodIn_app (goodIn_of _ (by decide +kernel)) ggX1_above_X1_lookUp
theorem dX1_above_0 : decode cX1_above 0 = .ok (.aload_n 0, 1) := by decide +kernel
theorem dX1_above_1 : decode cX1_above 1 = .ok (.getfield 19, 3) := by decide +kernel
theorem dX1_above_4 : decode cX1_above 4 = .ok (.ifCond .ne 5, 3) := by decide +kernel
theorem dX1_above_7 : decode cX1_above 7 = .ok (.iconst (-1), 1) := by decide +kernel
theorem dX1_above_8 : decode cX1_above 8 = .ok (.ireturn, 1) := by decide +kernel
theorem dX1_above_9 : decode cX1_above 9 = .ok (.aload_n 0, 1) := by decide +kernel
theorem dX1_above_10 : decode cX1_above 10 = .ok (.aload_n 0, 1) := by decide +kernel
theorem dX1_above_11 : decode cX1_above 11 = .ok (.aload_n 0, 1) := by decide +kernel
theorem dX1_above_12 : decode cX1_above 12 = .ok (.getfield 19, 3) := by decide +kernel
theorem dX1_above_15 : decode cX1_above 15 = .ok (.invokestatic 53, 3) := by decide +kernel
theorem dX1_above_18 : decode cX1_above 18 = .ok (.iconst 0, 1) := by decide +kernel
theorem dX1_above_19 : decode cX1_above 19 = .ok (.invokevirtual 56, 3) := by decide +kernel
theorem dX1_above_22 : decode cX1_above 22 = .ok (.iload_n 1, 1) := by decide +kernel
theorem dX1_above_23 : decode cX1_above 23 = .ok (.invokevirtual 59, 3) := by decide +kernel
theorem dX1_above_26 : decode cX1_above 26 = .ok (.ireturn, 1) := by decide +kernel
set_option maxRecDepth 20000 in
theorem ggX1_inherits_X1_isValue : GoodIn wsX1_inherits wsX1_isValue := goodIn_r _ [5, 6, 7, 4, 8, 9, 10, 11, 12, 13, 14, 15, 16, 17, 18, 19, 20, 37, 38, 39] (by decide +kernel) (by decide +kernel)
set_option maxRecDepth 20000 in
theorem gX1_inherits_X1_isValue : GoodIn wsX1_inherits (wsV RX1 29 RX1 yX1_isValue wsX1_isValue) := goodIn_app (goodIn_of _ (by decide +kernel)) ggX1_inherits_X1_isValue
set_option maxRecDepth 20000 in
theorem ggX1_inherits_X1_classMeantBy : GoodIn wsX1_inherits wsX1_classMeantBy := goodIn_r _ [24, 9, 10, 11, 4, 12, 6, 7, 8, 13, 14, 15, 16, 17, 18, 19, 20, 25, 26, 27, 28, 29, 37, 38, 39, 40, 41] (by decide +kernel) (by decide +kernel)
set_option maxRecDepth 20000 in
theorem gX1_inherits_X1_classMeantBy : GoodIn wsX1_inherits (wsV RX1 62 RX1 yX1_classMeantBy wsX1_classMeantBy) := goodIn_app (goodIn_of _ (by decide +kernel)) ggX1_inherits_X1_classMeantBy
set_option maxRecDepth 20000 in
theorem ggX1_inherits_X0_field : GoodIn wsX1_inherits wsX0_field := goodIn_r _ [32, 29, 33, 34, 35, 26, 36, 40, 41] (by decide +kernel) (by decide +kernel)
set_option maxRecDepth 20000 in
theorem gX1_inherits_X0_field_n37 : GoodIn wsX1_inherits (wsX0_field) := ggX1_inherits_X0_field
theorem dX1_inherits_0 : decode cX1_inherits 0 = .ok (.aload_n 0, 1) := by decide +kernel
theorem dX1_inherits_1 : decode cX1_inherits 1 = .ok (.iload_n 1, 1) := by decide +kernel
theorem dX1_inherits_2 : decode cX1_inherits 2 = .ok (.invokevirtual 29, 3) := by decide +kernel
theorem dX1_inherits_5 : decode cX1_inherits 5 = .ok (.ifCond .eq 7, 3) := by decide +kernel
theorem dX1_inherits_8 : decode cX1_inherits 8 = .ok (.iload_n 2, 1) := by decide +kernel
theorem dX1_inherits_9 : decode cX1_inherits 9 = .ok (.ifCond .ne 5, 3) := by decide +kernel
theorem dX1_inherits_12 : decode cX1_inherits 12 = .ok (.iconst 0, 1) := by decide +kernel
theorem dX1_inherits_13 : decode cX1_inherits 13 = .ok (.ireturn, 1) := by decide +kernel
theorem dX1_inherits_14 : decode cX1_inherits 14 = .ok (.iload_n 1, 1) := by decide +kernel
theorem dX1_inherits_15 : decode cX1_inherits 15 = .ok (.istore_n 3, 1) := by decide +kernel
theorem dX1_inherits_16 : decode cX1_inherits 16 = .ok (.iconst 0, 1) := by decide +kernel
theorem dX1_inherits_17 : decode cX1_inherits 17 = .ok (.istore 4, 2) := by decide +kernel
theorem dX1_inherits_19 : decode cX1_inherits 19 = .ok (.iload 4, 2) := by decide +kernel
theorem dX1_inherits_21 : decode cX1_inherits 21 = .ok (.bipush 100, 2) := by decide +kernel
theorem dX1_inherits_23 : decode cX1_inherits 23 = .ok (.if_icmp .ge 37, 3) := by decide +kernel
theorem dX1_inherits_26 : decode cX1_inherits 26 = .ok (.iload_n 3, 1) := by decide +kernel
theorem dX1_inherits_27 : decode cX1_inherits 27 = .ok (.iload_n 2, 1) := by decide +kernel
theorem dX1_inherits_28 : decode cX1_inherits 28 = .ok (.if_icmp .ne 5, 3) := by decide +kernel
theorem dX1_inherits_31 : decode cX1_inherits 31 = .ok (.iconst 1, 1) := by decide +kernel
theorem dX1_inherits_32 : decode cX1_inherits 32 = .ok (.ireturn, 1) := by decide +kernel
theorem dX1_inherits_33 : decode cX1_inherits 33 = .ok (.aload_n 0, 1) := by decide +kernel
theorem dX1_inherits_34 : decode cX1_inherits 34 = .ok (.iload_n 3, 1) := by decide +kernel
theorem dX1_inherits_35 : decode cX1_inherits 35 = .ok (.invokevirtual 62, 3) := by decide +kernel
theorem dX1_inherits_38 : decode cX1_inherits 38 = .ok (.astore 5, 2) := by decide +kernel
theorem dX1_inherits_40 : decode cX1_inherits 40 = .ok (.aload 5, 2) := by decide +kernel
theorem dX1_inherits_42 : decode cX1_inherits 42 = .ok (.ifnonnull 5, 3) := by decide +kernel
theorem dX1_inherits_45 : decode cX1_inherits 45 = .ok (.iconst 0, 1) := by decide +kernel
theorem dX1_inherits_46 : decode cX1_inherits 46 = .ok (.ireturn, 1) := by decide +kernel
theorem dX1_inherits_47 : decode cX1_inherits 47 = .ok (.aload 5, 2) := by decide +kernel
theorem dX1_inherits_49 : decode cX1_inherits 49 = .ok (.iconst 0, 1) := by decide +kernel
theorem dX1_inherits_50 : decode cX1_inherits 50 = .ok (.invokevirtual 37, 3) := by decide +kernel
theorem dX1_inherits_53 : decode cX1_inherits 53 = .ok (.istore_n 3, 1) := by decide +kernel
theorem dX1_inherits_54 : decode cX1_inherits 54 = .ok (.iinc 4 1, 3) := by decide +kernel
theorem dX1_inherits_57 : decode cX1_inherits 57 = .ok (.goto (-38), 3) := by decide +kernel
theorem dX1_inherits_60 : decode cX1_inherits 60 = .ok (.iconst 0, 1) := by decide +kernel
theorem dX1_inherits_61 : decode cX1_inherits 61 = .ok (.ireturn, 1) := by decide +kernel
set_option maxRecDepth 20000 in
theorem ggX1_become_X1_thingOf : GoodIn wsX1_become wsX1_thingOf := goodIn_r _ [5, 6, 15, 16, 17] (by decide +kernel) (by decide +kernel)
set_option maxRecDepth 20000 in
theorem gX1_become_X1_thingOf : GoodIn wsX1_become (wsV RX1 25 RX1 yX1_thingOf wsX1_thingOf) := goodIn_app (goodIn_of _ (by decide +kernel)) ggX1_become_X1_thingOf
set_option maxRecDepth 20000 in
theorem ggX1_become_X1_objectValue : GoodIn wsX1_become wsX1_objectValue := goodIn_r _ [9] (by decide +kernel) (by decide +kernel)
set_option maxRecDepth 20000 in
theorem gX1_become_X1_objectValue : GoodIn wsX1_become (va_wsS RX1 65 yX1_objectValue wsX1_objectValue) := goodIn_app (goodIn_of _ (by decide +kernel)) ggX1_become_X1_objectValue
set_option maxRecDepth 20000 in
theorem ggX1_become_X0_exchange : GoodIn wsX1_become wsX0_exchange := goodIn_r _ [13, 14, 18, 19] (by decide +kernel) (by decide +kernel)
set_option maxRecDepth 20000 in
theorem gX1_become_X0_exchange_n68 : GoodIn wsX1_become (wsX0_exchange) := ggX1_become_X0_exchange
theorem dX1_become_0 : decode cX1_become 0 = .ok (.aload_n 0, 1) := by decide +kernel
theorem dX1_become_1 : decode cX1_become 1 = .ok (.iload_n 1, 1) := by decide +kernel
theorem dX1_become_2 : decode cX1_become 2 = .ok (.invokevirtual 25, 3) := by decide +kernel
theorem dX1_become_5 : decode cX1_become 5 = .ok (.ifnull 11, 3) := by decide +kernel
theorem dX1_become_8 : decode cX1_become 8 = .ok (.aload_n 0, 1) := by decide +kernel
theorem dX1_become_9 : decode cX1_become 9 = .ok (.iload_n 2, 1) := by decide +kernel
theorem dX1_become_10 : decode cX1_become 10 = .ok (.invokevirtual 25, 3) := by decide +kernel
theorem dX1_become_13 : decode cX1_become 13 = .ok (.ifnonnull 5, 3) := by decide +kernel
theorem dX1_become_16 : decode cX1_become 16 = .ok (.iconst (-1), 1) := by decide +kernel
theorem dX1_become_17 : decode cX1_become 17 = .ok (.ireturn, 1) := by decide +kernel
theorem dX1_become_18 : decode cX1_become 18 = .ok (.iload_n 1, 1) := by decide +kernel
theorem dX1_become_19 : decode cX1_become 19 = .ok (.iload_n 2, 1) := by decide +kernel
theorem dX1_become_20 : decode cX1_become 20 = .ok (.if_icmp .ne 5, 3) := by decide +kernel
theorem dX1_become_23 : decode cX1_become 23 = .ok (.iconst 0, 1) := by decide +kernel
theorem dX1_become_24 : decode cX1_become 24 = .ok (.ireturn, 1) := by decide +kernel
theorem dX1_become_25 : decode cX1_become 25 = .ok (.iconst 0, 1) := by decide +kernel
theorem dX1_become_26 : decode cX1_become 26 = .ok (.istore_n 3, 1) := by decide +kernel
theorem dX1_become_27 : decode cX1_become 27 = .ok (.iconst 1, 1) := by decide +kernel
theorem dX1_become_28 : decode cX1_become 28 = .ok (.istore 4, 2) := by decide +kernel
theorem dX1_become_30 : decode cX1_become 30 = .ok (.iload 4, 2) := by decide +kernel
theorem dX1_become_32 : decode cX1_become 32 = .ok (.sipush 400, 3) := by decide +kernel
theorem dX1_become_35 : decode cX1_become 35 = .ok (.if_icmp .gt 38, 3) := by decide +kernel
theorem dX1_become_38 : decode cX1_become 38 = .ok (.aload_n 0, 1) := by decide +kernel
theorem dX1_become_39 : decode cX1_become 39 = .ok (.iload 4, 2) := by decide +kernel
theorem dX1_become_41 : decode cX1_become 41 = .ok (.invokevirtual 25, 3) := by decide +kernel
theorem dX1_become_44 : decode cX1_become 44 = .ok (.astore 5, 2) := by decide +kernel
theorem dX1_become_46 : decode cX1_become 46 = .ok (.aload 5, 2) := by decide +kernel
theorem dX1_become_48 : decode cX1_become 48 = .ok (.ifnull 19, 3) := by decide +kernel
theorem dX1_become_51 : decode cX1_become 51 = .ok (.iload_n 3, 1) := by decide +kernel
theorem dX1_become_52 : decode cX1_become 52 = .ok (.aload 5, 2) := by decide +kernel
theorem dX1_become_54 : decode cX1_become 54 = .ok (.iload_n 1, 1) := by decide +kernel
theorem dX1_become_55 : decode cX1_become 55 = .ok (.invokestatic 65, 3) := by decide +kernel
theorem dX1_become_58 : decode cX1_become 58 = .ok (.iload_n 2, 1) := by decide +kernel
theorem dX1_become_59 : decode cX1_become 59 = .ok (.invokestatic 65, 3) := by decide +kernel
theorem dX1_become_62 : decode cX1_become 62 = .ok (.invokevirtual 68, 3) := by decide +kernel
theorem dX1_become_65 : decode cX1_become 65 = .ok (.iadd, 1) := by decide +kernel
theorem dX1_become_66 : decode cX1_become 66 = .ok (.istore_n 3, 1) := by decide +kernel
theorem dX1_become_67 : decode cX1_become 67 = .ok (.iinc 4 1, 3) := by decide +kernel
theorem dX1_become_70 : decode cX1_become 70 = .ok (.goto (-40), 3) := by decide +kernel
theorem dX1_become_73 : decode cX1_become 73 = .ok (.iload_n 3, 1) := by decide +kernel
theorem dX1_become_74 : decode cX1_become 74 = .ok (.ireturn, 1) := by decide +kernel
set_option maxRecDepth 20000 in
theorem ggX1_users_X1_thingOf : GoodIn wsX1_users wsX1_thingOf := goodIn_r _ [5, 6, 22, 23, 24] (by decide +kernel) (by decide +kernel)
set_option maxRecDepth 20000 in
theorem gX1_users_X1_thingOf : GoodIn wsX1_users (wsV RX1 25 RX1 yX1_thingOf wsX1_thingOf) := goodIn_app (goodIn_of _ (by decide +kernel)) ggX1_users_X1_thingOf
set_option maxRecDepth 20000 in
theorem ggX1_users_X0_canBeClass : GoodIn wsX1_users wsX0_canBeClass := goodIn_r _ [10, 11, 25, 26] (by decide +kernel) (by decide +kernel)
set_option maxRecDepth 20000 in
theorem gX1_users_X0_canBeClass_n71 : GoodIn wsX1_users (wsX0_canBeClass) := ggX1_users_X0_canBeClass
set_option maxRecDepth 20000 in
theorem ggX1_users_X0_field : GoodIn wsX1_users wsX0_field := goodIn_r _ [14, 11, 15, 16, 17, 8, 18, 25, 26] (by decide +kernel) (by decide +kernel)
set_option maxRecDepth 20000 in
theorem gX1_users_X0_field_n37 : GoodIn wsX1_users (wsX0_field) := ggX1_users_X0_field
set_option maxRecDepth 20000 in
theorem ggX1_users_X1_objectValue : GoodIn wsX1_users wsX1_objectValue := goodIn_r _ [21] (by decide +kernel) (by decide +kernel)
set_option maxRecDepth 20000 in
theorem gX1_users_X1_objectValue : GoodIn wsX1_users (va_wsS RX1 65 yX1_objectValue wsX1_objectValue) := goodIn_app (goodIn_of _ (by decide +kernel)) ggX1_users_X1_objectValue
theorem dX1_users_0 : decode cX1_users 0 = .ok (.aload_n 0, 1) := by decide +kernel
theorem dX1_users_1 : decode cX1_users 1 = .ok (.iload_n 1, 1) := by decide +kernel
theorem dX1_users_2 : decode cX1_users 2 = .ok (.invokevirtual 25, 3) := by decide +kernel
theorem dX1_users_5 : decode cX1_users 5 = .ok (.ifnonnull 5, 3) := by decide +kernel
theorem dX1_users_8 : decode cX1_users 8 = .ok (.iconst 0, 1) := by decide +kernel
theorem dX1_users_9 : decode cX1_users 9 = .ok (.ireturn, 1) := by decide +kernel
theorem dX1_users_10 : decode cX1_users 10 = .ok (.iconst 0, 1) := by decide +kernel
theorem dX1_users_11 : decode cX1_users 11 = .ok (.istore_n 2, 1) := by decide +kernel
theorem dX1_users_12 : decode cX1_users 12 = .ok (.iconst 1, 1) := by decide +kernel
theorem dX1_users_13 : decode cX1_users 13 = .ok (.istore_n 3, 1) := by decide +kernel
theorem dX1_users_14 : decode cX1_users 14 = .ok (.iload_n 3, 1) := by decide +kernel
theorem dX1_users_15 : decode cX1_users 15 = .ok (.sipush 400, 3) := by decide +kernel
theorem dX1_users_18 : decode cX1_users 18 = .ok (.if_icmp .gt 45, 3) := by decide +kernel
theorem dX1_users_21 : decode cX1_users 21 = .ok (.aload_n 0, 1) := by decide +kernel
theorem dX1_users_22 : decode cX1_users 22 = .ok (.iload_n 3, 1) := by decide +kernel
theorem dX1_users_23 : decode cX1_users 23 = .ok (.invokevirtual 25, 3) := by decide +kernel
theorem dX1_users_26 : decode cX1_users 26 = .ok (.astore 4, 2) := by decide +kernel
theorem dX1_users_28 : decode cX1_users 28 = .ok (.aload 4, 2) := by decide +kernel
theorem dX1_users_30 : decode cX1_users 30 = .ok (.ifnull 27, 3) := by decide +kernel
theorem dX1_users_33 : decode cX1_users 33 = .ok (.aload 4, 2) := by decide +kernel
theorem dX1_users_35 : decode cX1_users 35 = .ok (.invokevirtual 71, 3) := by decide +kernel
theorem dX1_users_38 : decode cX1_users 38 = .ok (.ifCond .eq 19, 3) := by decide +kernel
theorem dX1_users_41 : decode cX1_users 41 = .ok (.aload 4, 2) := by decide +kernel
theorem dX1_users_43 : decode cX1_users 43 = .ok (.iconst 1, 1) := by decide +kernel
theorem dX1_users_44 : decode cX1_users 44 = .ok (.invokevirtual 37, 3) := by decide +kernel
theorem dX1_users_47 : decode cX1_users 47 = .ok (.iload_n 1, 1) := by decide +kernel
theorem dX1_users_48 : decode cX1_users 48 = .ok (.invokestatic 65, 3) := by decide +kernel
theorem dX1_users_51 : decode cX1_users 51 = .ok (.if_icmp .ne 6, 3) := by decide +kernel
theorem dX1_users_54 : decode cX1_users 54 = .ok (.iinc 2 1, 3) := by decide +kernel
theorem dX1_users_57 : decode cX1_users 57 = .ok (.iinc 3 1, 3) := by decide +kernel
theorem dX1_users_60 : decode cX1_users 60 = .ok (.goto (-46), 3) := by decide +kernel
theorem dX1_users_63 : decode cX1_users 63 = .ok (.iload_n 2, 1) := by decide +kernel
theorem dX1_users_64 : decode cX1_users 64 = .ok (.ireturn, 1) := by decide +kernel
set_option maxRecDepth 20000 in
theorem ggX1_senders_X1_thingOf : GoodIn wsX1_senders wsX1_thingOf := goodIn_r _ [5, 6, 32, 33, 34] (by decide +kernel) (by decide +kernel)
set_option maxRecDepth 20000 in
theorem gX1_senders_X1_thingOf : GoodIn wsX1_senders (wsV RX1 25 RX1 yX1_thingOf wsX1_thingOf) := goodIn_app (goodIn_of _ (by decide +kernel)) ggX1_senders_X1_thingOf
set_option maxRecDepth 20000 in
theorem ggX1_senders_X0_canBeClass : GoodIn wsX1_senders wsX0_canBeClass := goodIn_r _ [10, 11, 35, 36] (by decide +kernel) (by decide +kernel)
set_option maxRecDepth 20000 in
theorem gX1_senders_X0_canBeClass_n71 : GoodIn wsX1_senders (wsX0_canBeClass) := ggX1_senders_X0_canBeClass
set_option maxRecDepth 20000 in
theorem ggX1_senders_X0_field : GoodIn wsX1_senders wsX0_field := goodIn_r _ [14, 11, 15, 16, 17, 8, 18, 35, 36] (by decide +kernel) (by decide +kernel)
set_option maxRecDepth 20000 in
theorem gX1_senders_X0_field_n37 : GoodIn wsX1_senders (wsX0_field) := ggX1_senders_X0_field
set_option maxRecDepth 20000 in
theorem ggX1_senders_X1_thingMeantBy : GoodIn wsX1_senders wsX1_thingMeantBy := goodIn_r _ [22, 23, 24, 4, 25, 26, 27, 28, 1, 2, 3, 5, 6, 32, 33, 34] (by decide +kernel) (by decide +kernel)
set_option maxRecDepth 20000 in
theorem gX1_senders_X1_thingMeantBy : GoodIn wsX1_senders (wsV RX1 75 RX1 yX1_thingMeantBy wsX1_thingMeantBy) := goodIn_app (goodIn_of _ (by decide +kernel)) ggX1_senders_X1_thingMeantBy
set_option maxRecDepth 20000 in
theorem ggX1_senders_X0_placeOfMethod : GoodIn wsX1_senders wsX0_placeOfMethod := goodIn_r _ [31, 11, 35, 36] (by decide +kernel) (by decide +kernel)
set_option maxRecDepth 20000 in
theorem gX1_senders_X0_placeOfMethod_n78 : GoodIn wsX1_senders (wsX0_placeOfMethod) := ggX1_senders_X0_placeOfMethod
theorem dX1_senders_0 : decode cX1_senders 0 = .ok (.iconst 0, 1) := by decide +kernel
theorem dX1_senders_1 : decode cX1_senders 1 = .ok (.istore_n 2, 1) := by decide +kernel
theorem dX1_senders_2 : decode cX1_senders 2 = .ok (.iconst 1, 1) := by decide +kernel
theorem dX1_senders_3 : decode cX1_senders 3 = .ok (.istore_n 3, 1) := by decide +kernel
theorem dX1_senders_4 : decode cX1_senders 4 = .ok (.iload_n 3, 1) := by decide +kernel
theorem dX1_senders_5 : decode cX1_senders 5 = .ok (.sipush 400, 3) := by decide +kernel
theorem dX1_senders_8 : decode cX1_senders 8 = .ok (.if_icmp .gt 59, 3) := by decide +kernel
theorem dX1_senders_11 : decode cX1_senders 11 = .ok (.aload_n 0, 1) := by decide +kernel
theorem dX1_senders_12 : decode cX1_senders 12 = .ok (.iload_n 3, 1) := by decide +kernel
theorem dX1_senders_13 : decode cX1_senders 13 = .ok (.invokevirtual 25, 3) := by decide +kernel
theorem dX1_senders_16 : decode cX1_senders 16 = .ok (.astore 4, 2) := by decide +kernel
theorem dX1_senders_18 : decode cX1_senders 18 = .ok (.aload 4, 2) := by decide +kernel
theorem dX1_senders_20 : decode cX1_senders 20 = .ok (.ifnull 41, 3) := by decide +kernel
theorem dX1_senders_23 : decode cX1_senders 23 = .ok (.aload 4, 2) := by decide +kernel
theorem dX1_senders_25 : decode cX1_senders 25 = .ok (.invokevirtual 71, 3) := by decide +kernel
theorem dX1_senders_28 : decode cX1_senders 28 = .ok (.ifCond .eq 33, 3) := by decide +kernel
theorem dX1_senders_31 : decode cX1_senders 31 = .ok (.aload_n 0, 1) := by decide +kernel
theorem dX1_senders_32 : decode cX1_senders 32 = .ok (.aload 4, 2) := by decide +kernel
theorem dX1_senders_34 : decode cX1_senders 34 = .ok (.iconst 1, 1) := by decide +kernel
theorem dX1_senders_35 : decode cX1_senders 35 = .ok (.invokevirtual 37, 3) := by decide +kernel
theorem dX1_senders_38 : decode cX1_senders 38 = .ok (.invokevirtual 75, 3) := by decide +kernel
theorem dX1_senders_41 : decode cX1_senders 41 = .ok (.astore 5, 2) := by decide +kernel
theorem dX1_senders_43 : decode cX1_senders 43 = .ok (.aload 5, 2) := by decide +kernel
theorem dX1_senders_45 : decode cX1_senders 45 = .ok (.ifnull 16, 3) := by decide +kernel
theorem dX1_senders_48 : decode cX1_senders 48 = .ok (.aload 5, 2) := by decide +kernel
theorem dX1_senders_50 : decode cX1_senders 50 = .ok (.iload_n 1, 1) := by decide +kernel
theorem dX1_senders_51 : decode cX1_senders 51 = .ok (.invokevirtual 78, 3) := by decide +kernel
theorem dX1_senders_54 : decode cX1_senders 54 = .ok (.iconst (-1), 1) := by decide +kernel
theorem dX1_senders_55 : decode cX1_senders 55 = .ok (.if_icmp .eq 6, 3) := by decide +kernel
theorem dX1_senders_58 : decode cX1_senders 58 = .ok (.iinc 2 1, 3) := by decide +kernel
theorem dX1_senders_61 : decode cX1_senders 61 = .ok (.iinc 3 1, 3) := by decide +kernel
theorem dX1_senders_64 : decode cX1_senders 64 = .ok (.goto (-60), 3) := by decide +kernel
theorem dX1_senders_67 : decode cX1_senders 67 = .ok (.iload_n 2, 1) := by decide +kernel
theorem dX1_senders_68 : decode cX1_senders 68 = .ok (.ireturn, 1) := by decide +kernel
set_option maxRecDepth 20000 in
theorem ggX1_goUp_X1_classMeantBy : GoodIn wsX1_goUp wsX1_classMeantBy := goodIn_r _ [6, 7, 8, 9, 5, 10, 11, 12, 13, 14, 15, 16, 17, 18, 19, 20, 21, 22, 23, 24, 25, 26, 46, 47, 48, 49, 50] (by decide +kernel) (by decide +kernel)
set_option maxRecDepth 20000 in
theorem gX1_goUp_X1_classMeantBy : GoodIn wsX1_goUp (wsV RX1 62 RX1 yX1_classMeantBy wsX1_classMeantBy) := goodIn_app (goodIn_of _ (by decide +kernel)) ggX1_goUp_X1_classMeantBy
set_option maxRecDepth 20000 in
theorem ggX1_goUp_X1_hasBadDictionary : GoodIn wsX1_goUp wsX1_hasBadDictionary := goodIn_r _ [30, 31, 23, 32, 33, 26, 34, 35, 36, 37, 7, 8, 9, 5, 10, 11, 12, 13, 14, 15, 16, 17, 18, 19, 20, 21, 49, 50, 46, 47, 48] (by decide +kernel) (by decide +kernel)
set_option maxRecDepth 20000 in
theorem gX1_goUp_X1_hasBadDictionary : GoodIn wsX1_goUp (wsV RX1 81 RX1 yX1_hasBadDictionary wsX1_hasBadDictionary) := goodIn_app (goodIn_of _ (by decide +kernel)) ggX1_goUp_X1_hasBadDictionary
set_option maxRecDepth 20000 in
theorem ggX1_goUp_X0_field : GoodIn wsX1_goUp wsX0_field := goodIn_r _ [33, 26, 34, 35, 36, 23, 37, 49, 50] (by decide +kernel) (by decide +kernel)
set_option maxRecDepth 20000 in
theorem gX1_goUp_X0_field_n37 : GoodIn wsX1_goUp (wsX0_field) := ggX1_goUp_X0_field
set_option maxRecDepth 20000 in
theorem ggX1_goUp_X1_thingMeantBy : GoodIn wsX1_goUp wsX1_thingMeantBy := goodIn_r _ [10, 11, 12, 5, 13, 14, 15, 16, 17, 18, 19, 20, 21, 46, 47, 48] (by decide +kernel) (by decide +kernel)
set_option maxRecDepth 20000 in
theorem gX1_goUp_X1_thingMeantBy : GoodIn wsX1_goUp (wsV RX1 75 RX1 yX1_thingMeantBy wsX1_thingMeantBy) := goodIn_app (goodIn_of _ (by decide +kernel)) ggX1_goUp_X1_thingMeantBy
set_option maxRecDepth 20000 in
theorem ggX1_goUp_X1_findIn : GoodIn wsX1_goUp wsX1_findIn := goodIn_r _ [41, 42, 43, 23, 44, 45, 26, 31, 32, 33, 34, 35, 36, 37, 46, 47, 48, 49, 50] (by decide +kernel) (by decide +kernel)
set_option maxRecDepth 20000 in
theorem gX1_goUp_X1_findIn : GoodIn wsX1_goUp (wsV RX1 85 RX1 yX1_findIn wsX1_findIn) := goodIn_app (goodIn_of _ (by decide +kernel)) ggX1_goUp_X1_findIn
theorem dX1_goUp_0 : decode cX1_goUp 0 = .ok (.iload_n 1, 1) := by decide +kernel
theorem dX1_goUp_1 : decode cX1_goUp 1 = .ok (.istore_n 3, 1) := by decide +kernel
theorem dX1_goUp_2 : decode cX1_goUp 2 = .ok (.iconst 0, 1) := by decide +kernel
theorem dX1_goUp_3 : decode cX1_goUp 3 = .ok (.istore 4, 2) := by decide +kernel
theorem dX1_goUp_5 : decode cX1_goUp 5 = .ok (.iload 4, 2) := by decide +kernel
theorem dX1_goUp_7 : decode cX1_goUp 7 = .ok (.bipush 100, 2) := by decide +kernel
theorem dX1_goUp_9 : decode cX1_goUp 9 = .ok (.if_icmp .ge 72, 3) := by decide +kernel
theorem dX1_goUp_12 : decode cX1_goUp 12 = .ok (.iload_n 3, 1) := by decide +kernel
theorem dX1_goUp_13 : decode cX1_goUp 13 = .ok (.ifCond .ne 5, 3) := by decide +kernel
theorem dX1_goUp_16 : decode cX1_goUp 16 = .ok (.iconst (-1), 1) := by decide +kernel
theorem dX1_goUp_17 : decode cX1_goUp 17 = .ok (.ireturn, 1) := by decide +kernel
theorem dX1_goUp_18 : decode cX1_goUp 18 = .ok (.aload_n 0, 1) := by decide +kernel
theorem dX1_goUp_19 : decode cX1_goUp 19 = .ok (.iload_n 3, 1) := by decide +kernel
theorem dX1_goUp_20 : decode cX1_goUp 20 = .ok (.invokevirtual 62, 3) := by decide +kernel
theorem dX1_goUp_23 : decode cX1_goUp 23 = .ok (.astore 5, 2) := by decide +kernel
theorem dX1_goUp_25 : decode cX1_goUp 25 = .ok (.aload 5, 2) := by decide +kernel
theorem dX1_goUp_27 : decode cX1_goUp 27 = .ok (.ifnull 12, 3) := by decide +kernel
theorem dX1_goUp_30 : decode cX1_goUp 30 = .ok (.aload_n 0, 1) := by decide +kernel
theorem dX1_goUp_31 : decode cX1_goUp 31 = .ok (.aload 5, 2) := by decide +kernel
theorem dX1_goUp_33 : decode cX1_goUp 33 = .ok (.invokevirtual 81, 3) := by decide +kernel
theorem dX1_goUp_36 : decode cX1_goUp 36 = .ok (.ifCond .eq 6, 3) := by decide +kernel
theorem dX1_goUp_39 : decode cX1_goUp 39 = .ok (.bipush (-2), 2) := by decide +kernel
theorem dX1_goUp_41 : decode cX1_goUp 41 = .ok (.ireturn, 1) := by decide +kernel
theorem dX1_goUp_42 : decode cX1_goUp 42 = .ok (.aload_n 0, 1) := by decide +kernel
theorem dX1_goUp_43 : decode cX1_goUp 43 = .ok (.aload_n 0, 1) := by decide +kernel
theorem dX1_goUp_44 : decode cX1_goUp 44 = .ok (.aload 5, 2) := by decide +kernel
theorem dX1_goUp_46 : decode cX1_goUp 46 = .ok (.iconst 1, 1) := by decide +kernel
theorem dX1_goUp_47 : decode cX1_goUp 47 = .ok (.invokevirtual 37, 3) := by decide +kernel
theorem dX1_goUp_50 : decode cX1_goUp 50 = .ok (.invokevirtual 75, 3) := by decide +kernel
theorem dX1_goUp_53 : decode cX1_goUp 53 = .ok (.iload_n 2, 1) := by decide +kernel
theorem dX1_goUp_54 : decode cX1_goUp 54 = .ok (.invokevirtual 85, 3) := by decide +kernel
theorem dX1_goUp_57 : decode cX1_goUp 57 = .ok (.ifCond .eq 11, 3) := by decide +kernel
theorem dX1_goUp_60 : decode cX1_goUp 60 = .ok (.aload_n 0, 1) := by decide +kernel
theorem dX1_goUp_61 : decode cX1_goUp 61 = .ok (.iload_n 3, 1) := by decide +kernel
theorem dX1_goUp_62 : decode cX1_goUp 62 = .ok (.putfield 19, 3) := by decide +kernel
theorem dX1_goUp_65 : decode cX1_goUp 65 = .ok (.iload 4, 2) := by decide +kernel
theorem dX1_goUp_67 : decode cX1_goUp 67 = .ok (.ireturn, 1) := by decide +kernel
theorem dX1_goUp_68 : decode cX1_goUp 68 = .ok (.aload 5, 2) := by decide +kernel
theorem dX1_goUp_70 : decode cX1_goUp 70 = .ok (.iconst 0, 1) := by decide +kernel
theorem dX1_goUp_71 : decode cX1_goUp 71 = .ok (.invokevirtual 37, 3) := by decide +kernel
theorem dX1_goUp_74 : decode cX1_goUp 74 = .ok (.istore_n 3, 1) := by decide +kernel
theorem dX1_goUp_75 : decode cX1_goUp 75 = .ok (.iinc 4 1, 3) := by decide +kernel
theorem dX1_goUp_78 : decode cX1_goUp 78 = .ok (.goto (-73), 3) := by decide +kernel
theorem dX1_goUp_81 : decode cX1_goUp 81 = .ok (.iload_n 3, 1) := by decide +kernel
theorem dX1_goUp_82 : decode cX1_goUp 82 = .ok (.ifCond .ne 7, 3) := by decide +kernel
theorem dX1_goUp_85 : decode cX1_goUp 85 = .ok (.iconst (-1), 1) := by decide +kernel
theorem dX1_goUp_86 : decode cX1_goUp 86 = .ok (.goto 5, 3) := by decide +kernel
theorem dX1_goUp_89 : decode cX1_goUp 89 = .ok (.bipush (-2), 2) := by decide +kernel
theorem dX1_goUp_91 : decode cX1_goUp 91 = .ok (.ireturn, 1) := by decide +kernel
set_option maxRecDepth 20000 in
theorem ggX1_hasBadDictionary_X0_field : GoodIn wsX1_hasBadDictionary wsX0_field := goodIn_r _ [4, 5, 6, 7, 8, 2, 9, 26, 27] (by decide +kernel) (by decide +kernel)
set_option maxRecDepth 20000 in
theorem gX1_hasBadDictionary_X0_field_n37 : GoodIn wsX1_hasBadDictionary (wsX0_field) := ggX1_hasBadDictionary_X0_field
set_option maxRecDepth 20000 in
theorem ggX1_hasBadDictionary_X1_thingMeantBy : GoodIn wsX1_hasBadDictionary wsX1_thingMeantBy := goodIn_r _ [14, 15, 16, 13, 17, 18, 19, 20, 21, 22, 23, 24, 25, 28, 29, 30] (by decide +kernel) (by decide +kernel)
set_option maxRecDepth 20000 in
theorem gX1_hasBadDictionary_X1_thingMeantBy : GoodIn wsX1_hasBadDictionary (wsV RX1 75 RX1 yX1_thingMeantBy wsX1_thingMeantBy) := goodIn_app (goodIn_of _ (by decide +kernel)) ggX1_hasBadDictionary_X1_thingMeantBy
theorem dX1_hasBadDictionary_0 : decode cX1_hasBadDictionary 0 = .ok (.aload_n 1, 1) := by decide +kernel
theorem dX1_hasBadDictionary_1 : decode cX1_hasBadDictionary 1 = .ok (.iconst 1, 1) := by decide +kernel
theorem dX1_hasBadDictionary_2 : decode cX1_hasBadDictionary 2 = .ok (.invokevirtual 37, 3) := by decide +kernel
theorem dX1_hasBadDictionary_5 : decode cX1_hasBadDictionary 5 = .ok (.istore_n 2, 1) := by decide +kernel
theorem dX1_hasBadDictionary_6 : decode cX1_hasBadDictionary 6 = .ok (.aload_n 0, 1) := by decide +kernel
theorem dX1_hasBadDictionary_7 : decode cX1_hasBadDictionary 7 = .ok (.iload_n 2, 1) := by decide +kernel
theorem dX1_hasBadDictionary_8 : decode cX1_hasBadDictionary 8 = .ok (.invokevirtual 75, 3) := by decide +kernel
theorem dX1_hasBadDictionary_11 : decode cX1_hasBadDictionary 11 = .ok (.astore_n 3, 1) := by decide +kernel
theorem dX1_hasBadDictionary_12 : decode cX1_hasBadDictionary 12 = .ok (.iload_n 2, 1) := by decide +kernel
theorem dX1_hasBadDictionary_13 : decode cX1_hasBadDictionary 13 = .ok (.ifCond .eq 18, 3) := by decide +kernel
theorem dX1_hasBadDictionary_16 : decode cX1_hasBadDictionary 16 = .ok (.aload_n 3, 1) := by decide +kernel
theorem dX1_hasBadDictionary_17 : decode cX1_hasBadDictionary 17 = .ok (.ifnull 10, 3) := by decide +kernel
theorem dX1_hasBadDictionary_20 : decode cX1_hasBadDictionary 20 = .ok (.aload_n 3, 1) := by decide +kernel
theorem dX1_hasBadDictionary_21 : decode cX1_hasBadDictionary 21 = .ok (.getfield 41, 3) := by decide +kernel
theorem dX1_hasBadDictionary_24 : decode cX1_hasBadDictionary 24 = .ok (.ifCond .ne 7, 3) := by decide +kernel
theorem dX1_hasBadDictionary_27 : decode cX1_hasBadDictionary 27 = .ok (.iconst 1, 1) := by decide +kernel
theorem dX1_hasBadDictionary_28 : decode cX1_hasBadDictionary 28 = .ok (.goto 4, 3) := by decide +kernel
theorem dX1_hasBadDictionary_31 : decode cX1_hasBadDictionary 31 = .ok (.iconst 0, 1) := by decide +kernel
theorem dX1_hasBadDictionary_32 : decode cX1_hasBadDictionary 32 = .ok (.ireturn, 1) := by decide +kernel
set_option maxRecDepth 20000 in
theorem ggX1_findIn_X0_placeOfMethod : GoodIn wsX1_findIn wsX0_placeOfMethod := goodIn_r _ [5, 6, 17, 18] (by decide +kernel) (by decide +kernel)
set_option maxRecDepth 20000 in
theorem gX1_findIn_X0_placeOfMethod_n78 : GoodIn wsX1_findIn (wsX0_placeOfMethod) := ggX1_findIn_X0_placeOfMethod
set_option maxRecDepth 20000 in
theorem ggX1_findIn_X0_field : GoodIn wsX1_findIn wsX0_field := goodIn_r _ [9, 6, 10, 11, 12, 3, 13, 17, 18] (by decide +kernel) (by decide +kernel)
set_option maxRecDepth 20000 in
theorem gX1_findIn_X0_field_n37 : GoodIn wsX1_findIn (wsX0_field) := ggX1_findIn_X0_field
theorem dX1_findIn_0 : decode cX1_findIn 0 = .ok (.aload_n 1, 1) := by decide +kernel
theorem dX1_findIn_1 : decode cX1_findIn 1 = .ok (.ifnonnull 7, 3) := by decide +kernel
theorem dX1_findIn_4 : decode cX1_findIn 4 = .ok (.iconst (-1), 1) := by decide +kernel
theorem dX1_findIn_5 : decode cX1_findIn 5 = .ok (.goto 8, 3) := by decide +kernel
theorem dX1_findIn_8 : decode cX1_findIn 8 = .ok (.aload_n 1, 1) := by decide +kernel
theorem dX1_findIn_9 : decode cX1_findIn 9 = .ok (.iload_n 2, 1) := by decide +kernel
theorem dX1_findIn_10 : decode cX1_findIn 10 = .ok (.invokevirtual 78, 3) := by decide +kernel
theorem dX1_findIn_13 : decode cX1_findIn 13 = .ok (.istore_n 3, 1) := by decide +kernel
theorem dX1_findIn_14 : decode cX1_findIn 14 = .ok (.iload_n 3, 1) := by decide +kernel
theorem dX1_findIn_15 : decode cX1_findIn 15 = .ok (.iconst (-1), 1) := by decide +kernel
theorem dX1_findIn_16 : decode cX1_findIn 16 = .ok (.if_icmp .ne 5, 3) := by decide +kernel
theorem dX1_findIn_19 : decode cX1_findIn 19 = .ok (.iconst 0, 1) := by decide +kernel
theorem dX1_findIn_20 : decode cX1_findIn 20 = .ok (.ireturn, 1) := by decide +kernel
theorem dX1_findIn_21 : decode cX1_findIn 21 = .ok (.aload_n 0, 1) := by decide +kernel
theorem dX1_findIn_22 : decode cX1_findIn 22 = .ok (.aload_n 1, 1) := by decide +kernel
theorem dX1_findIn_23 : decode cX1_findIn 23 = .ok (.iload_n 3, 1) := by decide +kernel
theorem dX1_findIn_24 : decode cX1_findIn 24 = .ok (.invokevirtual 37, 3) := by decide +kernel
theorem dX1_findIn_27 : decode cX1_findIn 27 = .ok (.putfield 15, 3) := by decide +kernel
theorem dX1_findIn_30 : decode cX1_findIn 30 = .ok (.iconst 1, 1) := by decide +kernel
theorem dX1_findIn_31 : decode cX1_findIn 31 = .ok (.ireturn, 1) := by decide +kernel
set_option maxRecDepth 20000 in
theorem ggX1_isValue_X1_isNumber : GoodIn wsX1_isValue wsX1_isNumber := goodIn_r _ [4] (by decide +kernel) (by decide +kernel)
set_option maxRecDepth 20000 in
theorem gX1_isValue_X1_isNumber : GoodIn wsX1_isValue (va_wsS RX1 89 yX1_isNumber wsX1_isNumber) := goodIn_app (goodIn_of _ (by decide +kernel)) ggX1_isValue_X1_isNumber
set_option maxRecDepth 20000 in
theorem ggX1_isValue_X1_thingMeantBy : GoodIn wsX1_isValue wsX1_thingMeantBy := goodIn_r _ [8, 1, 2, 3, 4, 9, 10, 11, 12, 13, 14, 15, 16, 17, 18, 19] (by decide +kernel) (by decide +kernel)
set_option maxRecDepth 20000 in
theorem gX1_isValue_X1_thingMeantBy : GoodIn wsX1_isValue (wsV RX1 75 RX1 yX1_thingMeantBy wsX1_thingMeantBy) := goodIn_app (goodIn_of _ (by decide +kernel)) ggX1_isValue_X1_thingMeantBy
theorem dX1_isValue_0 : decode cX1_isValue 0 = .ok (.iload_n 1, 1) := by decide +kernel
theorem dX1_isValue_1 : decode cX1_isValue 1 = .ok (.ifCond .eq 18, 3) := by decide +kernel
theorem dX1_isValue_4 : decode cX1_isValue 4 = .ok (.iload_n 1, 1) := by decide +kernel
theorem dX1_isValue_5 : decode cX1_isValue 5 = .ok (.invokestatic 89, 3) := by decide +kernel
theorem dX1_isValue_8 : decode cX1_isValue 8 = .ok (.ifCond .ne 11, 3) := by decide +kernel
theorem dX1_isValue_11 : decode cX1_isValue 11 = .ok (.aload_n 0, 1) := by decide +kernel
theorem dX1_isValue_12 : decode cX1_isValue 12 = .ok (.iload_n 1, 1) := by decide +kernel
theorem dX1_isValue_13 : decode cX1_isValue 13 = .ok (.invokevirtual 75, 3) := by decide +kernel
theorem dX1_isValue_16 : decode cX1_isValue 16 = .ok (.ifnull 7, 3) := by decide +kernel
theorem dX1_isValue_19 : decode cX1_isValue 19 = .ok (.iconst 1, 1) := by decide +kernel
theorem dX1_isValue_20 : decode cX1_isValue 20 = .ok (.goto 4, 3) := by decide +kernel
theorem dX1_isValue_23 : decode cX1_isValue 23 = .ok (.iconst 0, 1) := by decide +kernel
theorem dX1_isValue_24 : decode cX1_isValue 24 = .ok (.ireturn, 1) := by decide +kernel
theorem dX1_isNumber_0 : decode cX1_isNumber 0 = .ok (.iload_n 0, 1) := by decide +kernel
theorem dX1_isNumber_1 : decode cX1_isNumber 1 = .ok (.iconst 1, 1) := by decide +kernel
theorem dX1_isNumber_2 : decode cX1_isNumber 2 = .ok (.iand, 1) := by decide +kernel
theorem dX1_isNumber_3 : decode cX1_isNumber 3 = .ok (.iconst 1, 1) := by decide +kernel
theorem dX1_isNumber_4 : decode cX1_isNumber 4 = .ok (.if_icmp .ne 7, 3) := by decide +kernel
theorem dX1_isNumber_7 : decode cX1_isNumber 7 = .ok (.iconst 1, 1) := by decide +kernel
theorem dX1_isNumber_8 : decode cX1_isNumber 8 = .ok (.goto 4, 3) := by decide +kernel
theorem dX1_isNumber_11 : decode cX1_isNumber 11 = .ok (.iconst 0, 1) := by decide +kernel
theorem dX1_isNumber_12 : decode cX1_isNumber 12 = .ok (.ireturn, 1) := by decide +kernel
theorem dX1_thingOf_0 : decode cX1_thingOf 0 = .ok (.iload_n 1, 1) := by decide +kernel
theorem dX1_thingOf_1 : decode cX1_thingOf 1 = .ok (.iconst 1, 1) := by decide +kernel
theorem dX1_thingOf_2 : decode cX1_thingOf 2 = .ok (.if_icmp .lt 10, 3) := by decide +kernel
theorem dX1_thingOf_5 : decode cX1_thingOf 5 = .ok (.iload_n 1, 1) := by decide +kernel
theorem dX1_thingOf_6 : decode cX1_thingOf 6 = .ok (.sipush 400, 3) := by decide +kernel
theorem dX1_thingOf_9 : decode cX1_thingOf 9 = .ok (.if_icmp .le 7, 3) := by decide +kernel
theorem dX1_thingOf_12 : decode cX1_thingOf 12 = .ok (.aconst_null, 1) := by decide +kernel
theorem dX1_thingOf_13 : decode cX1_thingOf 13 = .ok (.goto 9, 3) := by decide +kernel
theorem dX1_thingOf_16 : decode cX1_thingOf 16 = .ok (.aload_n 0, 1) := by decide +kernel
theorem dX1_thingOf_17 : decode cX1_thingOf 17 = .ok (.getfield 11, 3) := by decide +kernel
theorem dX1_thingOf_20 : decode cX1_thingOf 20 = .ok (.iload_n 1, 1) := by decide +kernel
theorem dX1_thingOf_21 : decode cX1_thingOf 21 = .ok (.aaload, 1) := by decide +kernel
theorem dX1_thingOf_22 : decode cX1_thingOf 22 = .ok (.areturn, 1) := by decide +kernel
set_option maxRecDepth 20000 in
theorem ggX1_thingMeantBy_X1_isNumber : GoodIn wsX1_thingMeantBy wsX1_isNumber := goodIn_r _ [4] (by decide +kernel) (by decide +kernel)
set_option maxRecDepth 20000 in
theorem gX1_thingMeantBy_X1_isNumber : GoodIn wsX1_thingMeantBy (va_wsS RX1 89 yX1_isNumber wsX1_isNumber) := goodIn_app (goodIn_of _ (by decide +kernel)) ggX1_thingMeantBy_X1_isNumber
set_option maxRecDepth 20000 in
theorem ggX1_thingMeantBy_X1_objectNumber : GoodIn wsX1_thingMeantBy wsX1_objectNumber := goodIn_r _ [7] (by decide +kernel) (by decide +kernel)
set_option maxRecDepth 20000 in
theorem gX1_thingMeantBy_X1_objectNumber : GoodIn wsX1_thingMeantBy (va_wsS RX1 53 yX1_objectNumber wsX1_objectNumber) := goodIn_app (goodIn_of _ (by decide +kernel)) ggX1_thingMeantBy_X1_objectNumber
set_option maxRecDepth 20000 in
theorem ggX1_thingMeantBy_X1_thingOf : GoodIn wsX1_thingMeantBy wsX1_thingOf := goodIn_r _ [11, 12, 13, 14, 15] (by decide +kernel) (by decide +kernel)
set_option maxRecDepth 20000 in
theorem gX1_thingMeantBy_X1_thingOf : GoodIn wsX1_thingMeantBy (wsV RX1 25 RX1 yX1_thingOf wsX1_thingOf) := goodIn_app (goodIn_of _ (by decide +kernel)) ggX1_thingMeantBy_X1_thingOf
theorem dX1_thingMeantBy_0 : decode cX1_thingMeantBy 0 = .ok (.iload_n 1, 1) := by decide +kernel
theorem dX1_thingMeantBy_1 : decode cX1_thingMeantBy 1 = .ok (.invokestatic 89, 3) := by decide +kernel
theorem dX1_thingMeantBy_4 : decode cX1_thingMeantBy 4 = .ok (.ifCond .eq 7, 3) := by decide +kernel
theorem dX1_thingMeantBy_7 : decode cX1_thingMeantBy 7 = .ok (.aconst_null, 1) := by decide +kernel
theorem dX1_thingMeantBy_8 : decode cX1_thingMeantBy 8 = .ok (.goto 11, 3) := by decide +kernel
theorem dX1_thingMeantBy_11 : decode cX1_thingMeantBy 11 = .ok (.aload_n 0, 1) := by decide +kernel
theorem dX1_thingMeantBy_12 : decode cX1_thingMeantBy 12 = .ok (.iload_n 1, 1) := by decide +kernel
theorem dX1_thingMeantBy_13 : decode cX1_thingMeantBy 13 = .ok (.invokestatic 53, 3) := by decide +kernel
theorem dX1_thingMeantBy_16 : decode cX1_thingMeantBy 16 = .ok (.invokevirtual 25, 3) := by decide +kernel
theorem dX1_thingMeantBy_19 : decode cX1_thingMeantBy 19 = .ok (.areturn, 1) := by decide +kernel
theorem dX1_objectNumber_0 : decode cX1_objectNumber 0 = .ok (.iload_n 0, 1) := by decide +kernel
theorem dX1_objectNumber_1 : decode cX1_objectNumber 1 = .ok (.iconst 1, 1) := by decide +kernel
theorem dX1_objectNumber_2 : decode cX1_objectNumber 2 = .ok (.ishr, 1) := by decide +kernel
theorem dX1_objectNumber_3 : decode cX1_objectNumber 3 = .ok (.ireturn, 1) := by decide +kernel
theorem dX1_objectValue_0 : decode cX1_objectValue 0 = .ok (.iload_n 0, 1) := by decide +kernel
theorem dX1_objectValue_1 : decode cX1_objectValue 1 = .ok (.iconst 1, 1) := by decide +kernel
theorem dX1_objectValue_2 : decode cX1_objectValue 2 = .ok (.ishl, 1) := by decide +kernel
theorem dX1_objectValue_3 : decode cX1_objectValue 3 = .ok (.ireturn, 1) := by decide +kernel
set_option maxRecDepth 20000 in
theorem ggX1_classMeantBy_X1_thingMeantBy : GoodIn wsX1_classMeantBy wsX1_thingMeantBy := goodIn_r _ [5, 6, 7, 4, 8, 9, 10, 11, 12, 13, 14, 15, 16, 22, 23, 24] (by decide +kernel) (by decide +kernel)
set_option maxRecDepth 20000 in
theorem gX1_classMeantBy_X1_thingMeantBy : GoodIn wsX1_classMeantBy (wsV RX1 75 RX1 yX1_thingMeantBy wsX1_thingMeantBy) := goodIn_app (goodIn_of _ (by decide +kernel)) ggX1_classMeantBy_X1_thingMeantBy
set_option maxRecDepth 20000 in
theorem ggX1_classMeantBy_X0_canBeClass : GoodIn wsX1_classMeantBy wsX0_canBeClass := goodIn_r _ [20, 21, 25, 26] (by decide +kernel) (by decide +kernel)
set_option maxRecDepth 20000 in
theorem gX1_classMeantBy_X0_canBeClass_n71 : GoodIn wsX1_classMeantBy (wsX0_canBeClass) := ggX1_classMeantBy_X0_canBeClass
theorem dX1_classMeantBy_0 : decode cX1_classMeantBy 0 = .ok (.aload_n 0, 1) := by decide +kernel
theorem dX1_classMeantBy_1 : decode cX1_classMeantBy 1 = .ok (.iload_n 1, 1) := by decide +kernel
theorem dX1_classMeantBy_2 : decode cX1_classMeantBy 2 = .ok (.invokevirtual 75, 3) := by decide +kernel
theorem dX1_classMeantBy_5 : decode cX1_classMeantBy 5 = .ok (.astore_n 2, 1) := by decide +kernel
theorem dX1_classMeantBy_6 : decode cX1_classMeantBy 6 = .ok (.aload_n 2, 1) := by decide +kernel
theorem dX1_classMeantBy_7 : decode cX1_classMeantBy 7 = .ok (.ifnull 10, 3) := by decide +kernel
theorem dX1_classMeantBy_10 : decode cX1_classMeantBy 10 = .ok (.aload_n 2, 1) := by decide +kernel
theorem dX1_classMeantBy_11 : decode cX1_classMeantBy 11 = .ok (.invokevirtual 71, 3) := by decide +kernel
theorem dX1_classMeantBy_14 : decode cX1_classMeantBy 14 = .ok (.ifCond .ne 7, 3) := by decide +kernel
theorem dX1_classMeantBy_17 : decode cX1_classMeantBy 17 = .ok (.aconst_null, 1) := by decide +kernel
theorem dX1_classMeantBy_18 : decode cX1_classMeantBy 18 = .ok (.goto 4, 3) := by decide +kernel
theorem dX1_classMeantBy_21 : decode cX1_classMeantBy 21 = .ok (.aload_n 2, 1) := by decide +kernel
theorem dX1_classMeantBy_22 : decode cX1_classMeantBy 22 = .ok (.areturn, 1) := by decide +kernel
theorem dX2_init_0 : decode cX2_init 0 = .ok (.aload_n 0, 1) := by decide +kernel
theorem dX2_init_1 : decode cX2_init 1 = .ok (.invokespecial 1, 3) := by decide +kernel
theorem dX2_init_4 : decode cX2_init 4 = .ok (.aload_n 0, 1) := by decide +kernel
theorem dX2_init_5 : decode cX2_init 5 = .ok (.sipush 401, 3) := by decide +kernel
theorem dX2_init_8 : decode cX2_init 8 = .ok (.newarray .boolean, 2) := by decide +kernel
theorem dX2_init_10 : decode cX2_init 10 = .ok (.putfield 7, 3) := by decide +kernel
theorem dX2_init_13 : decode cX2_init 13 = .ok (.aload_n 0, 1) := by decide +kernel
theorem dX2_init_14 : decode cX2_init 14 = .ok (.sipush 401, 3) := by decide +kernel
theorem dX2_init_17 : decode cX2_init 17 = .ok (.newarray .int, 2) := by decide +kernel
theorem dX2_init_19 : decode cX2_init 19 = .ok (.putfield 13, 3) := by decide +kernel
theorem dX2_init_22 : decode cX2_init 22 = .ok (.aload_n 0, 1) := by decide +kernel
theorem dX2_init_23 : decode cX2_init 23 = .ok (.sipush 16040, 3) := by decide +kernel
theorem dX2_init_26 : decode cX2_init 26 = .ok (.newarray .int, 2) := by decide +kernel
theorem dX2_init_28 : decode cX2_init 28 = .ok (.putfield 17, 3) := by decide +kernel
theorem dX2_init_31 : decode cX2_init 31 = .ok (.return_, 1) := by decide +kernel
theorem dX2_isMade_0 : decode cX2_isMade 0 = .ok (.iload_n 1, 1) := by decide +kernel
theorem dX2_isMade_1 : decode cX2_isMade 1 = .ok (.ifCond .le 23, 3) := by decide +kernel
theorem dX2_isMade_4 : decode cX2_isMade 4 = .ok (.iload_n 1, 1) := by decide +kernel
theorem dX2_isMade_5 : decode cX2_isMade 5 = .ok (.sipush 401, 3) := by decide +kernel
theorem dX2_isMade_8 : decode cX2_isMade 8 = .ok (.if_icmp .ge 16, 3) := by decide +kernel
theorem dX2_isMade_11 : decode cX2_isMade 11 = .ok (.aload_n 0, 1) := by decide +kernel
theorem dX2_isMade_12 : decode cX2_isMade 12 = .ok (.getfield 7, 3) := by decide +kernel
theorem dX2_isMade_15 : decode cX2_isMade 15 = .ok (.iload_n 1, 1) := by decide +kernel
theorem dX2_isMade_16 : decode cX2_isMade 16 = .ok (.baload, 1) := by decide +kernel
theorem dX2_isMade_17 : decode cX2_isMade 17 = .ok (.ifCond .eq 7, 3) := by decide +kernel
theorem dX2_isMade_20 : decode cX2_isMade 20 = .ok (.iconst 1, 1) := by decide +kernel
theorem dX2_isMade_21 : decode cX2_isMade 21 = .ok (.goto 4, 3) := by decide +kernel
theorem dX2_isMade_24 : decode cX2_isMade 24 = .ok (.iconst 0, 1) := by decide +kernel
theorem dX2_isMade_25 : decode cX2_isMade 25 = .ok (.ireturn, 1) := by decide +kernel
set_option maxRecDepth 20000 in
theorem ggX2_isValue_X2_isMade : GoodIn wsX2_isValue wsX2_isMade := goodIn_r _ [5, 6, 7, 8, 9, 10, 11] (by decide +kernel) (by decide +kernel)
set_option maxRecDepth 20000 in
theorem gX2_isValue_X2_isMade : GoodIn wsX2_isValue (wsV RX2 20 RX2 yX2_isMade wsX2_isMade) := goodIn_app (goodIn_of _ (by decide +kernel)) ggX2_isValue_X2_isMade
theorem dX2_isValue_0 : decode cX2_isValue 0 = .ok (.iload_n 1, 1) := by decide +kernel
theorem dX2_isValue_1 : decode cX2_isValue 1 = .ok (.ifCond .eq 23, 3) := by decide +kernel
theorem dX2_isValue_4 : decode cX2_isValue 4 = .ok (.iload_n 1, 1) := by decide +kernel
theorem dX2_isValue_5 : decode cX2_isValue 5 = .ok (.iconst 2, 1) := by decide +kernel
theorem dX2_isValue_6 : decode cX2_isValue 6 = .ok (.irem, 1) := by decide +kernel
theorem dX2_isValue_7 : decode cX2_isValue 7 = .ok (.ifCond .ne 17, 3) := by decide +kernel
theorem dX2_isValue_10 : decode cX2_isValue 10 = .ok (.iload_n 1, 1) := by decide +kernel
theorem dX2_isValue_11 : decode cX2_isValue 11 = .ok (.ifCond .le 17, 3) := by decide +kernel
theorem dX2_isValue_14 : decode cX2_isValue 14 = .ok (.aload_n 0, 1) := by decide +kernel
theorem dX2_isValue_15 : decode cX2_isValue 15 = .ok (.iload_n 1, 1) := by decide +kernel
theorem dX2_isValue_16 : decode cX2_isValue 16 = .ok (.iconst 2, 1) := by decide +kernel
theorem dX2_isValue_17 : decode cX2_isValue 17 = .ok (.idiv, 1) := by decide +kernel
theorem dX2_isValue_18 : decode cX2_isValue 18 = .ok (.invokevirtual 20, 3) := by decide +kernel
theorem dX2_isValue_21 : decode cX2_isValue 21 = .ok (.ifCond .eq 7, 3) := by decide +kernel
theorem dX2_isValue_24 : decode cX2_isValue 24 = .ok (.iconst 1, 1) := by decide +kernel
theorem dX2_isValue_25 : decode cX2_isValue 25 = .ok (.goto 4, 3) := by decide +kernel
theorem dX2_isValue_28 : decode cX2_isValue 28 = .ok (.iconst 0, 1) := by decide +kernel
theorem dX2_isValue_29 : decode cX2_isValue 29 = .ok (.ireturn, 1) := by decide +kernel
set_option maxRecDepth 20000 in
theorem ggX2_fieldsOf_X2_isMade : GoodIn wsX2_fieldsOf wsX2_isMade := goodIn_r _ [6, 7, 8, 9, 10, 11, 12] (by decide +kernel) (by decide +kernel)
set_option maxRecDepth 20000 in
theorem gX2_fieldsOf_X2_isMade : GoodIn wsX2_fieldsOf (wsV RX2 20 RX2 yX2_isMade wsX2_isMade) := goodIn_app (goodIn_of _ (by decide +kernel)) ggX2_fieldsOf_X2_isMade
theorem dX2_fieldsOf_0 : decode cX2_fieldsOf 0 = .ok (.iload_n 1, 1) := by decide +kernel
theorem dX2_fieldsOf_1 : decode cX2_fieldsOf 1 = .ok (.ifCond .le 41, 3) := by decide +kernel
theorem dX2_fieldsOf_4 : decode cX2_fieldsOf 4 = .ok (.iload_n 1, 1) := by decide +kernel
theorem dX2_fieldsOf_5 : decode cX2_fieldsOf 5 = .ok (.iconst 2, 1) := by decide +kernel
theorem dX2_fieldsOf_6 : decode cX2_fieldsOf 6 = .ok (.irem, 1) := by decide +kernel
theorem dX2_fieldsOf_7 : decode cX2_fieldsOf 7 = .ok (.ifCond .ne 35, 3) := by decide +kernel
theorem dX2_fieldsOf_10 : decode cX2_fieldsOf 10 = .ok (.aload_n 0, 1) := by decide +kernel
theorem dX2_fieldsOf_11 : decode cX2_fieldsOf 11 = .ok (.iload_n 1, 1) := by decide +kernel
theorem dX2_fieldsOf_12 : decode cX2_fieldsOf 12 = .ok (.iconst 2, 1) := by decide +kernel
theorem dX2_fieldsOf_13 : decode cX2_fieldsOf 13 = .ok (.idiv, 1) := by decide +kernel
theorem dX2_fieldsOf_14 : decode cX2_fieldsOf 14 = .ok (.invokevirtual 20, 3) := by decide +kernel
theorem dX2_fieldsOf_17 : decode cX2_fieldsOf 17 = .ok (.ifCond .eq 25, 3) := by decide +kernel
theorem dX2_fieldsOf_20 : decode cX2_fieldsOf 20 = .ok (.aload_n 0, 1) := by decide +kernel
theorem dX2_fieldsOf_21 : decode cX2_fieldsOf 21 = .ok (.getfield 13, 3) := by decide +kernel
theorem dX2_fieldsOf_24 : decode cX2_fieldsOf 24 = .ok (.iload_n 1, 1) := by decide +kernel
theorem dX2_fieldsOf_25 : decode cX2_fieldsOf 25 = .ok (.iconst 2, 1) := by decide +kernel
theorem dX2_fieldsOf_26 : decode cX2_fieldsOf 26 = .ok (.idiv, 1) := by decide +kernel
theorem dX2_fieldsOf_27 : decode cX2_fieldsOf 27 = .ok (.iaload, 1) := by decide +kernel
theorem dX2_fieldsOf_28 : decode cX2_fieldsOf 28 = .ok (.ifCond .le 14, 3) := by decide +kernel
theorem dX2_fieldsOf_31 : decode cX2_fieldsOf 31 = .ok (.aload_n 0, 1) := by decide +kernel
theorem dX2_fieldsOf_32 : decode cX2_fieldsOf 32 = .ok (.getfield 13, 3) := by decide +kernel
theorem dX2_fieldsOf_35 : decode cX2_fieldsOf 35 = .ok (.iload_n 1, 1) := by decide +kernel
theorem dX2_fieldsOf_36 : decode cX2_fieldsOf 36 = .ok (.iconst 2, 1) := by decide +kernel
theorem dX2_fieldsOf_37 : decode cX2_fieldsOf 37 = .ok (.idiv, 1) := by decide +kernel
theorem dX2_fieldsOf_38 : decode cX2_fieldsOf 38 = .ok (.iaload, 1) := by decide +kernel
theorem dX2_fieldsOf_39 : decode cX2_fieldsOf 39 = .ok (.goto 4, 3) := by decide +kernel
theorem dX2_fieldsOf_42 : decode cX2_fieldsOf 42 = .ok (.iconst 0, 1) := by decide +kernel
theorem dX2_fieldsOf_43 : decode cX2_fieldsOf 43 = .ok (.ireturn, 1) := by decide +kernel
set_option maxRecDepth 20000 in
theorem ggX2_isOfFields_X2_isMade : GoodIn wsX2_isOfFields wsX2_isMade := goodIn_r _ [6, 7, 8, 9, 10, 11, 12] (by decide +kernel) (by decide +kernel)
set_option maxRecDepth 20000 in
theorem gX2_isOfFields_X2_isMade : GoodIn wsX2_isOfFields (wsV RX2 20 RX2 yX2_isMade wsX2_isMade) := goodIn_app (goodIn_of _ (by decide +kernel)) ggX2_isOfFields_X2_isMade
theorem dX2_isOfFields_0 : decode cX2_isOfFields 0 = .ok (.iload_n 1, 1) := by decide +kernel
theorem dX2_isOfFields_1 : decode cX2_isOfFields 1 = .ok (.ifCond .le 34, 3) := by decide +kernel
theorem dX2_isOfFields_4 : decode cX2_isOfFields 4 = .ok (.iload_n 1, 1) := by decide +kernel
theorem dX2_isOfFields_5 : decode cX2_isOfFields 5 = .ok (.iconst 2, 1) := by decide +kernel
theorem dX2_isOfFields_6 : decode cX2_isOfFields 6 = .ok (.irem, 1) := by decide +kernel
theorem dX2_isOfFields_7 : decode cX2_isOfFields 7 = .ok (.ifCond .ne 28, 3) := by decide +kernel
theorem dX2_isOfFields_10 : decode cX2_isOfFields 10 = .ok (.aload_n 0, 1) := by decide +kernel
theorem dX2_isOfFields_11 : decode cX2_isOfFields 11 = .ok (.iload_n 1, 1) := by decide +kernel
theorem dX2_isOfFields_12 : decode cX2_isOfFields 12 = .ok (.iconst 2, 1) := by decide +kernel
theorem dX2_isOfFields_13 : decode cX2_isOfFields 13 = .ok (.idiv, 1) := by decide +kernel
theorem dX2_isOfFields_14 : decode cX2_isOfFields 14 = .ok (.invokevirtual 20, 3) := by decide +kernel
theorem dX2_isOfFields_17 : decode cX2_isOfFields 17 = .ok (.ifCond .eq 18, 3) := by decide +kernel
theorem dX2_isOfFields_20 : decode cX2_isOfFields 20 = .ok (.aload_n 0, 1) := by decide +kernel
theorem dX2_isOfFields_21 : decode cX2_isOfFields 21 = .ok (.getfield 13, 3) := by decide +kernel
theorem dX2_isOfFields_24 : decode cX2_isOfFields 24 = .ok (.iload_n 1, 1) := by decide +kernel
theorem dX2_isOfFields_25 : decode cX2_isOfFields 25 = .ok (.iconst 2, 1) := by decide +kernel
theorem dX2_isOfFields_26 : decode cX2_isOfFields 26 = .ok (.idiv, 1) := by decide +kernel
theorem dX2_isOfFields_27 : decode cX2_isOfFields 27 = .ok (.iaload, 1) := by decide +kernel
theorem dX2_isOfFields_28 : decode cX2_isOfFields 28 = .ok (.ifCond .lt 7, 3) := by decide +kernel
theorem dX2_isOfFields_31 : decode cX2_isOfFields 31 = .ok (.iconst 1, 1) := by decide +kernel
theorem dX2_isOfFields_32 : decode cX2_isOfFields 32 = .ok (.goto 4, 3) := by decide +kernel
theorem dX2_isOfFields_35 : decode cX2_isOfFields 35 = .ok (.iconst 0, 1) := by decide +kernel
theorem dX2_isOfFields_36 : decode cX2_isOfFields 36 = .ok (.ireturn, 1) := by decide +kernel
theorem dX2_field_0 : decode cX2_field 0 = .ok (.aload_n 0, 1) := by decide +kernel
theorem dX2_field_1 : decode cX2_field 1 = .ok (.getfield 17, 3) := by decide +kernel
theorem dX2_field_4 : decode cX2_field 4 = .ok (.bipush 40, 2) := by decide +kernel
theorem dX2_field_6 : decode cX2_field 6 = .ok (.iload_n 1, 1) := by decide +kernel
theorem dX2_field_7 : decode cX2_field 7 = .ok (.iconst 2, 1) := by decide +kernel
theorem dX2_field_8 : decode cX2_field 8 = .ok (.idiv, 1) := by decide +kernel
theorem dX2_field_9 : decode cX2_field 9 = .ok (.imul, 1) := by decide +kernel
theorem dX2_field_10 : decode cX2_field 10 = .ok (.iload_n 2, 1) := by decide +kernel
theorem dX2_field_11 : decode cX2_field 11 = .ok (.iadd, 1) := by decide +kernel
theorem dX2_field_12 : decode cX2_field 12 = .ok (.iaload, 1) := by decide +kernel
theorem dX2_field_13 : decode cX2_field 13 = .ok (.ireturn, 1) := by decide +kernel
theorem dX2_make_0 : decode cX2_make 0 = .ok (.iload_n 1, 1) := by decide +kernel
theorem dX2_make_1 : decode cX2_make 1 = .ok (.iconst 1, 1) := by decide +kernel
theorem dX2_make_2 : decode cX2_make 2 = .ok (.if_icmp .lt 20, 3) := by decide +kernel
theorem dX2_make_5 : decode cX2_make 5 = .ok (.iload_n 1, 1) := by decide +kernel
theorem dX2_make_6 : decode cX2_make 6 = .ok (.sipush 401, 3) := by decide +kernel
theorem dX2_make_9 : decode cX2_make 9 = .ok (.if_icmp .ge 13, 3) := by decide +kernel
theorem dX2_make_12 : decode cX2_make 12 = .ok (.iload_n 2, 1) := by decide +kernel
theorem dX2_make_13 : decode cX2_make 13 = .ok (.ifCond .lt 9, 3) := by decide +kernel
theorem dX2_make_16 : decode cX2_make 16 = .ok (.iload_n 2, 1) := by decide +kernel
theorem dX2_make_17 : decode cX2_make 17 = .ok (.bipush 40, 2) := by decide +kernel
theorem dX2_make_19 : decode cX2_make 19 = .ok (.if_icmp .le 5, 3) := by decide +kernel
theorem dX2_make_22 : decode cX2_make 22 = .ok (.iconst 0, 1) := by decide +kernel
theorem dX2_make_23 : decode cX2_make 23 = .ok (.ireturn, 1) := by decide +kernel
theorem dX2_make_24 : decode cX2_make 24 = .ok (.aload_n 0, 1) := by decide +kernel
theorem dX2_make_25 : decode cX2_make 25 = .ok (.getfield 7, 3) := by decide +kernel
theorem dX2_make_28 : decode cX2_make 28 = .ok (.iload_n 1, 1) := by decide +kernel
theorem dX2_make_29 : decode cX2_make 29 = .ok (.iconst 1, 1) := by decide +kernel
theorem dX2_make_30 : decode cX2_make 30 = .ok (.bastore, 1) := by decide +kernel
theorem dX2_make_31 : decode cX2_make 31 = .ok (.aload_n 0, 1) := by decide +kernel
theorem dX2_make_32 : decode cX2_make 32 = .ok (.getfield 13, 3) := by decide +kernel
theorem dX2_make_35 : decode cX2_make 35 = .ok (.iload_n 1, 1) := by decide +kernel
theorem dX2_make_36 : decode cX2_make 36 = .ok (.iload_n 3, 1) := by decide +kernel
theorem dX2_make_37 : decode cX2_make 37 = .ok (.ifCond .eq 7, 3) := by decide +kernel
theorem dX2_make_40 : decode cX2_make 40 = .ok (.iload_n 2, 1) := by decide +kernel
theorem dX2_make_41 : decode cX2_make 41 = .ok (.goto 4, 3) := by decide +kernel
theorem dX2_make_44 : decode cX2_make 44 = .ok (.iconst (-1), 1) := by decide +kernel
theorem dX2_make_45 : decode cX2_make 45 = .ok (.iastore, 1) := by decide +kernel
theorem dX2_make_46 : decode cX2_make 46 = .ok (.iconst 0, 1) := by decide +kernel
theorem dX2_make_47 : decode cX2_make 47 = .ok (.istore 4, 2) := by decide +kernel
theorem dX2_make_49 : decode cX2_make 49 = .ok (.iload 4, 2) := by decide +kernel
theorem dX2_make_51 : decode cX2_make 51 = .ok (.bipush 40, 2) := by decide +kernel
theorem dX2_make_53 : decode cX2_make 53 = .ok (.if_icmp .ge 22, 3) := by decide +kernel
theorem dX2_make_56 : decode cX2_make 56 = .ok (.aload_n 0, 1) := by decide +kernel
theorem dX2_make_57 : decode cX2_make 57 = .ok (.getfield 17, 3) := by decide +kernel
theorem dX2_make_60 : decode cX2_make 60 = .ok (.bipush 40, 2) := by decide +kernel
theorem dX2_make_62 : decode cX2_make 62 = .ok (.iload_n 1, 1) := by decide +kernel
theorem dX2_make_63 : decode cX2_make 63 = .ok (.imul, 1) := by decide +kernel
theorem dX2_make_64 : decode cX2_make 64 = .ok (.iload 4, 2) := by decide +kernel
theorem dX2_make_66 : decode cX2_make 66 = .ok (.iadd, 1) := by decide +kernel
theorem dX2_make_67 : decode cX2_make 67 = .ok (.iconst 0, 1) := by decide +kernel
theorem dX2_make_68 : decode cX2_make 68 = .ok (.iastore, 1) := by decide +kernel
theorem dX2_make_69 : decode cX2_make 69 = .ok (.iinc 4 1, 3) := by decide +kernel
theorem dX2_make_72 : decode cX2_make 72 = .ok (.goto (-23), 3) := by decide +kernel
theorem dX2_make_75 : decode cX2_make 75 = .ok (.iconst 1, 1) := by decide +kernel
theorem dX2_make_76 : decode cX2_make 76 = .ok (.ireturn, 1) := by decide +kernel
set_option maxRecDepth 20000 in
theorem ggX2_isField_X2_isMade : GoodIn wsX2_isField wsX2_isMade := goodIn_r _ [6, 7, 8, 9, 10, 11, 12] (by decide +kernel) (by decide +kernel)
set_option maxRecDepth 20000 in
theorem gX2_isField_X2_isMade : GoodIn wsX2_isField (wsV RX2 20 RX2 yX2_isMade wsX2_isMade) := goodIn_app (goodIn_of _ (by decide +kernel)) ggX2_isField_X2_isMade
theorem dX2_isField_0 : decode cX2_isField 0 = .ok (.aload_n 0, 1) := by decide +kernel
theorem dX2_isField_1 : decode cX2_isField 1 = .ok (.iload_n 1, 1) := by decide +kernel
theorem dX2_isField_2 : decode cX2_isField 2 = .ok (.invokevirtual 20, 3) := by decide +kernel
theorem dX2_isField_5 : decode cX2_isField 5 = .ok (.ifCond .eq 21, 3) := by decide +kernel
theorem dX2_isField_8 : decode cX2_isField 8 = .ok (.iload_n 2, 1) := by decide +kernel
theorem dX2_isField_9 : decode cX2_isField 9 = .ok (.ifCond .lt 17, 3) := by decide +kernel
theorem dX2_isField_12 : decode cX2_isField 12 = .ok (.iload_n 2, 1) := by decide +kernel
theorem dX2_isField_13 : decode cX2_isField 13 = .ok (.aload_n 0, 1) := by decide +kernel
theorem dX2_isField_14 : decode cX2_isField 14 = .ok (.getfield 13, 3) := by decide +kernel
theorem dX2_isField_17 : decode cX2_isField 17 = .ok (.iload_n 1, 1) := by decide +kernel
theorem dX2_isField_18 : decode cX2_isField 18 = .ok (.iaload, 1) := by decide +kernel
theorem dX2_isField_19 : decode cX2_isField 19 = .ok (.if_icmp .ge 7, 3) := by decide +kernel
theorem dX2_isField_22 : decode cX2_isField 22 = .ok (.iconst 1, 1) := by decide +kernel
theorem dX2_isField_23 : decode cX2_isField 23 = .ok (.goto 4, 3) := by decide +kernel
theorem dX2_isField_26 : decode cX2_isField 26 = .ok (.iconst 0, 1) := by decide +kernel
theorem dX2_isField_27 : decode cX2_isField 27 = .ok (.ireturn, 1) := by decide +kernel
set_option maxRecDepth 20000 in
theorem ggX2_put_X2_isField : GoodIn wsX2_put wsX2_isField := goodIn_r _ [6, 7, 8, 9, 10, 5, 11, 12, 17, 18, 19, 20, 21] (by decide +kernel) (by decide +kernel)
set_option maxRecDepth 20000 in
theorem gX2_put_X2_isField : GoodIn wsX2_put (wsV RX2 24 RX2 yX2_isField wsX2_isField) := goodIn_app (goodIn_of _ (by decide +kernel)) ggX2_put_X2_isField
set_option maxRecDepth 20000 in
theorem ggX2_put_X2_isValue : GoodIn wsX2_put wsX2_isValue := goodIn_r _ [16, 8, 9, 10, 5, 11, 12, 17, 18, 19, 20, 21] (by decide +kernel) (by decide +kernel)
set_option maxRecDepth 20000 in
theorem gX2_put_X2_isValue : GoodIn wsX2_put (wsV RX2 28 RX2 yX2_isValue wsX2_isValue) := goodIn_app (goodIn_of _ (by decide +kernel)) ggX2_put_X2_isValue
theorem dX2_put_0 : decode cX2_put 0 = .ok (.aload_n 0, 1) := by decide +kernel
theorem dX2_put_1 : decode cX2_put 1 = .ok (.iload_n 1, 1) := by decide +kernel
theorem dX2_put_2 : decode cX2_put 2 = .ok (.iload_n 2, 1) := by decide +kernel
theorem dX2_put_3 : decode cX2_put 3 = .ok (.invokevirtual 24, 3) := by decide +kernel
theorem dX2_put_6 : decode cX2_put 6 = .ok (.ifCond .eq 11, 3) := by decide +kernel
theorem dX2_put_9 : decode cX2_put 9 = .ok (.aload_n 0, 1) := by decide +kernel
theorem dX2_put_10 : decode cX2_put 10 = .ok (.iload_n 3, 1) := by decide +kernel
theorem dX2_put_11 : decode cX2_put 11 = .ok (.invokevirtual 28, 3) := by decide +kernel
theorem dX2_put_14 : decode cX2_put 14 = .ok (.ifCond .ne 5, 3) := by decide +kernel
theorem dX2_put_17 : decode cX2_put 17 = .ok (.iconst 0, 1) := by decide +kernel
theorem dX2_put_18 : decode cX2_put 18 = .ok (.ireturn, 1) := by decide +kernel
theorem dX2_put_19 : decode cX2_put 19 = .ok (.aload_n 0, 1) := by decide +kernel
theorem dX2_put_20 : decode cX2_put 20 = .ok (.getfield 17, 3) := by decide +kernel
theorem dX2_put_23 : decode cX2_put 23 = .ok (.bipush 40, 2) := by decide +kernel
theorem dX2_put_25 : decode cX2_put 25 = .ok (.iload_n 1, 1) := by decide +kernel
theorem dX2_put_26 : decode cX2_put 26 = .ok (.imul, 1) := by decide +kernel
theorem dX2_put_27 : decode cX2_put 27 = .ok (.iload_n 2, 1) := by decide +kernel
theorem dX2_put_28 : decode cX2_put 28 = .ok (.iadd, 1) := by decide +kernel
theorem dX2_put_29 : decode cX2_put 29 = .ok (.iload_n 3, 1) := by decide +kernel
theorem dX2_put_30 : decode cX2_put 30 = .ok (.iastore, 1) := by decide +kernel
theorem dX2_put_31 : decode cX2_put 31 = .ok (.iconst 1, 1) := by decide +kernel
theorem dX2_put_32 : decode cX2_put 32 = .ok (.ireturn, 1) := by decide +kernel
set_option maxRecDepth 20000 in
theorem ggX2_get_X2_isField : GoodIn wsX2_get wsX2_isField := goodIn_r _ [6, 7, 8, 9, 10, 5, 11, 12, 13, 14, 15, 16, 17] (by decide +kernel) (by decide +kernel)
set_option maxRecDepth 20000 in
theorem gX2_get_X2_isField : GoodIn wsX2_get (wsV RX2 24 RX2 yX2_isField wsX2_isField) := goodIn_app (goodIn_of _ (by decide +kernel)) ggX2_get_X2_isField
theorem dX2_get_0 : decode cX2_get 0 = .ok (.aload_n 0, 1) := by decide +kernel
theorem dX2_get_1 : decode cX2_get 1 = .ok (.iload_n 1, 1) := by decide +kernel
theorem dX2_get_2 : decode cX2_get 2 = .ok (.iload_n 2, 1) := by decide +kernel
theorem dX2_get_3 : decode cX2_get 3 = .ok (.invokevirtual 24, 3) := by decide +kernel
theorem dX2_get_6 : decode cX2_get 6 = .ok (.ifCond .eq 17, 3) := by decide +kernel
theorem dX2_get_9 : decode cX2_get 9 = .ok (.aload_n 0, 1) := by decide +kernel
theorem dX2_get_10 : decode cX2_get 10 = .ok (.getfield 17, 3) := by decide +kernel
theorem dX2_get_13 : decode cX2_get 13 = .ok (.bipush 40, 2) := by decide +kernel
theorem dX2_get_15 : decode cX2_get 15 = .ok (.iload_n 1, 1) := by decide +kernel
theorem dX2_get_16 : decode cX2_get 16 = .ok (.imul, 1) := by decide +kernel
theorem dX2_get_17 : decode cX2_get 17 = .ok (.iload_n 2, 1) := by decide +kernel
theorem dX2_get_18 : decode cX2_get 18 = .ok (.iadd, 1) := by decide +kernel
theorem dX2_get_19 : decode cX2_get 19 = .ok (.iaload, 1) := by decide +kernel
theorem dX2_get_20 : decode cX2_get 20 = .ok (.goto 4, 3) := by decide +kernel
theorem dX2_get_23 : decode cX2_get 23 = .ok (.iconst 0, 1) := by decide +kernel
theorem dX2_get_24 : decode cX2_get 24 = .ok (.ireturn, 1) := by decide +kernel
set_option maxRecDepth 20000 in
theorem ggX2_size_X2_isMade : GoodIn wsX2_size wsX2_isMade := goodIn_r _ [6, 7, 8, 9, 10, 11, 12] (by decide +kernel) (by decide +kernel)
set_option maxRecDepth 20000 in
theorem gX2_size_X2_isMade : GoodIn wsX2_size (wsV RX2 20 RX2 yX2_isMade wsX2_isMade) := goodIn_app (goodIn_of _ (by decide +kernel)) ggX2_size_X2_isMade
theorem dX2_size_0 : decode cX2_size 0 = .ok (.aload_n 0, 1) := by decide +kernel
theorem dX2_size_1 : decode cX2_size 1 = .ok (.iload_n 1, 1) := by decide +kernel
theorem dX2_size_2 : decode cX2_size 2 = .ok (.invokevirtual 20, 3) := by decide +kernel
theorem dX2_size_5 : decode cX2_size 5 = .ok (.ifCond .eq 12, 3) := by decide +kernel
theorem dX2_size_8 : decode cX2_size 8 = .ok (.aload_n 0, 1) := by decide +kernel
theorem dX2_size_9 : decode cX2_size 9 = .ok (.getfield 13, 3) := by decide +kernel
theorem dX2_size_12 : decode cX2_size 12 = .ok (.iload_n 1, 1) := by decide +kernel
theorem dX2_size_13 : decode cX2_size 13 = .ok (.iaload, 1) := by decide +kernel
theorem dX2_size_14 : decode cX2_size 14 = .ok (.goto 4, 3) := by decide +kernel
theorem dX2_size_17 : decode cX2_size 17 = .ok (.iconst (-1), 1) := by decide +kernel
theorem dX2_size_18 : decode cX2_size 18 = .ok (.ireturn, 1) := by decide +kernel
set_option maxRecDepth 20000 in
theorem ggX2_placeOf_X2_fieldsOf : GoodIn wsX2_placeOf wsX2_fieldsOf := goodIn_r _ [5, 6, 7, 8, 9, 4, 10, 11, 17, 18, 19, 20, 21] (by decide +kernel) (by decide +kernel)
set_option maxRecDepth 20000 in
theorem gX2_placeOf_X2_fieldsOf : GoodIn wsX2_placeOf (wsV RX2 31 RX2 yX2_fieldsOf wsX2_fieldsOf) := goodIn_app (goodIn_of _ (by decide +kernel)) ggX2_placeOf_X2_fieldsOf
set_option maxRecDepth 20000 in
theorem ggX2_placeOf_X2_field : GoodIn wsX2_placeOf wsX2_field := goodIn_r _ [15, 16, 17, 18, 19, 20, 21] (by decide +kernel) (by decide +kernel)
set_option maxRecDepth 20000 in
theorem gX2_placeOf_X2_field : GoodIn wsX2_placeOf (wsV RX2 35 RX2 yX2_field wsX2_field) := goodIn_app (goodIn_of _ (by decide +kernel)) ggX2_placeOf_X2_field
theorem dX2_placeOf_0 : decode cX2_placeOf 0 = .ok (.aload_n 0, 1) := by decide +kernel
theorem dX2_placeOf_1 : decode cX2_placeOf 1 = .ok (.iload_n 1, 1) := by decide +kernel
theorem dX2_placeOf_2 : decode cX2_placeOf 2 = .ok (.invokevirtual 31, 3) := by decide +kernel
theorem dX2_placeOf_5 : decode cX2_placeOf 5 = .ok (.istore_n 3, 1) := by decide +kernel
theorem dX2_placeOf_6 : decode cX2_placeOf 6 = .ok (.iconst 0, 1) := by decide +kernel
theorem dX2_placeOf_7 : decode cX2_placeOf 7 = .ok (.istore 4, 2) := by decide +kernel
theorem dX2_placeOf_9 : decode cX2_placeOf 9 = .ok (.iload 4, 2) := by decide +kernel
theorem dX2_placeOf_11 : decode cX2_placeOf 11 = .ok (.iconst 1, 1) := by decide +kernel
theorem dX2_placeOf_12 : decode cX2_placeOf 12 = .ok (.iadd, 1) := by decide +kernel
theorem dX2_placeOf_13 : decode cX2_placeOf 13 = .ok (.iload_n 3, 1) := by decide +kernel
theorem dX2_placeOf_14 : decode cX2_placeOf 14 = .ok (.if_icmp .ge 23, 3) := by decide +kernel
theorem dX2_placeOf_17 : decode cX2_placeOf 17 = .ok (.aload_n 0, 1) := by decide +kernel
theorem dX2_placeOf_18 : decode cX2_placeOf 18 = .ok (.iload_n 1, 1) := by decide +kernel
theorem dX2_placeOf_19 : decode cX2_placeOf 19 = .ok (.iload 4, 2) := by decide +kernel
theorem dX2_placeOf_21 : decode cX2_placeOf 21 = .ok (.invokevirtual 35, 3) := by decide +kernel
theorem dX2_placeOf_24 : decode cX2_placeOf 24 = .ok (.iload_n 2, 1) := by decide +kernel
theorem dX2_placeOf_25 : decode cX2_placeOf 25 = .ok (.if_icmp .ne 6, 3) := by decide +kernel
theorem dX2_placeOf_28 : decode cX2_placeOf 28 = .ok (.iload 4, 2) := by decide +kernel
theorem dX2_placeOf_30 : decode cX2_placeOf 30 = .ok (.ireturn, 1) := by decide +kernel
theorem dX2_placeOf_31 : decode cX2_placeOf 31 = .ok (.iinc 4 2, 3) := by decide +kernel
theorem dX2_placeOf_34 : decode cX2_placeOf 34 = .ok (.goto (-25), 3) := by decide +kernel
theorem dX2_placeOf_37 : decode cX2_placeOf 37 = .ok (.iconst (-1), 1) := by decide +kernel
theorem dX2_placeOf_38 : decode cX2_placeOf 38 = .ok (.ireturn, 1) := by decide +kernel
set_option maxRecDepth 20000 in
theorem ggX2_lookUp_X2_isValue : GoodIn wsX2_lookUp wsX2_isValue := goodIn_r _ [7, 8, 9, 10, 6, 11, 12, 31, 32, 33, 34, 35] (by decide +kernel) (by decide +kernel)
set_option maxRecDepth 20000 in
theorem gX2_lookUp_X2_isValue : GoodIn wsX2_lookUp (wsV RX2 28 RX2 yX2_isValue wsX2_isValue) := goodIn_app (goodIn_of _ (by decide +kernel)) ggX2_lookUp_X2_isValue
set_option maxRecDepth 20000 in
theorem ggX2_lookUp_X2_fieldsOf : GoodIn wsX2_lookUp wsX2_fieldsOf := goodIn_r _ [16, 17, 8, 9, 10, 6, 11, 12, 31, 32, 33, 34, 35] (by decide +kernel) (by decide +kernel)
set_option maxRecDepth 20000 in
theorem gX2_lookUp_X2_fieldsOf : GoodIn wsX2_lookUp (wsV RX2 31 RX2 yX2_fieldsOf wsX2_fieldsOf) := goodIn_app (goodIn_of _ (by decide +kernel)) ggX2_lookUp_X2_fieldsOf
set_option maxRecDepth 20000 in
theorem ggX2_lookUp_X2_field : GoodIn wsX2_lookUp wsX2_field := goodIn_r _ [21, 22, 31, 32, 33, 34, 35] (by decide +kernel) (by decide +kernel)
set_option maxRecDepth 20000 in
theorem gX2_lookUp_X2_field : GoodIn wsX2_lookUp (wsV RX2 35 RX2 yX2_field wsX2_field) := goodIn_app (goodIn_of _ (by decide +kernel)) ggX2_lookUp_X2_field
set_option maxRecDepth 20000 in
theorem ggX2_lookUp_X2_isOfFields : GoodIn wsX2_lookUp wsX2_isOfFields := goodIn_r _ [26, 17, 8, 9, 10, 6, 11, 12, 31, 32, 33, 34, 35] (by decide +kernel) (by decide +kernel)
set_option maxRecDepth 20000 in
theorem gX2_lookUp_X2_isOfFields : GoodIn wsX2_lookUp (wsV RX2 46 RX2 yX2_isOfFields wsX2_isOfFields) := goodIn_app (goodIn_of _ (by decide +kernel)) ggX2_lookUp_X2_isOfFields
set_option maxRecDepth 20000 in
theorem ggX2_lookUp_X2_placeOf : GoodIn wsX2_lookUp wsX2_placeOf := goodIn_r _ [30, 13, 14, 15, 6, 16, 17, 8, 9, 10, 11, 12, 18, 19, 20, 21, 22, 31, 32, 33, 34, 35] (by decide +kernel) (by decide +kernel)
set_option maxRecDepth 20000 in
theorem gX2_lookUp_X2_placeOf : GoodIn wsX2_lookUp (wsV RX2 49 RX2 yX2_placeOf wsX2_placeOf) := goodIn_app (goodIn_of _ (by decide +kernel)) ggX2_lookUp_X2_placeOf
theorem dX2_lookUp_0 : decode cX2_lookUp 0 = .ok (.aload_n 0, 1) := by decide +kernel
theorem dX2_lookUp_1 : decode cX2_lookUp 1 = .ok (.iconst 0, 1) := by decide +kernel
theorem dX2_lookUp_2 : decode cX2_lookUp 2 = .ok (.putfield 39, 3) := by decide +kernel
theorem dX2_lookUp_5 : decode cX2_lookUp 5 = .ok (.aload_n 0, 1) := by decide +kernel
theorem dX2_lookUp_6 : decode cX2_lookUp 6 = .ok (.iconst 0, 1) := by decide +kernel
theorem dX2_lookUp_7 : decode cX2_lookUp 7 = .ok (.putfield 43, 3) := by decide +kernel
theorem dX2_lookUp_10 : decode cX2_lookUp 10 = .ok (.aload_n 0, 1) := by decide +kernel
theorem dX2_lookUp_11 : decode cX2_lookUp 11 = .ok (.iload_n 1, 1) := by decide +kernel
theorem dX2_lookUp_12 : decode cX2_lookUp 12 = .ok (.invokevirtual 28, 3) := by decide +kernel
theorem dX2_lookUp_15 : decode cX2_lookUp 15 = .ok (.ifCond .eq 11, 3) := by decide +kernel
theorem dX2_lookUp_18 : decode cX2_lookUp 18 = .ok (.aload_n 0, 1) := by decide +kernel
theorem dX2_lookUp_19 : decode cX2_lookUp 19 = .ok (.iload_n 2, 1) := by decide +kernel
theorem dX2_lookUp_20 : decode cX2_lookUp 20 = .ok (.invokevirtual 28, 3) := by decide +kernel
theorem dX2_lookUp_23 : decode cX2_lookUp 23 = .ok (.ifCond .ne 6, 3) := by decide +kernel
theorem dX2_lookUp_26 : decode cX2_lookUp 26 = .ok (.bipush (-2), 2) := by decide +kernel
theorem dX2_lookUp_28 : decode cX2_lookUp 28 = .ok (.ireturn, 1) := by decide +kernel
theorem dX2_lookUp_29 : decode cX2_lookUp 29 = .ok (.iload_n 1, 1) := by decide +kernel
theorem dX2_lookUp_30 : decode cX2_lookUp 30 = .ok (.istore_n 3, 1) := by decide +kernel
theorem dX2_lookUp_31 : decode cX2_lookUp 31 = .ok (.iconst 0, 1) := by decide +kernel
theorem dX2_lookUp_32 : decode cX2_lookUp 32 = .ok (.istore 4, 2) := by decide +kernel
theorem dX2_lookUp_34 : decode cX2_lookUp 34 = .ok (.iload 4, 2) := by decide +kernel
theorem dX2_lookUp_36 : decode cX2_lookUp 36 = .ok (.bipush 100, 2) := by decide +kernel
theorem dX2_lookUp_38 : decode cX2_lookUp 38 = .ok (.if_icmp .ge 96, 3) := by decide +kernel
theorem dX2_lookUp_41 : decode cX2_lookUp 41 = .ok (.iload_n 3, 1) := by decide +kernel
theorem dX2_lookUp_42 : decode cX2_lookUp 42 = .ok (.ifCond .ne 5, 3) := by decide +kernel
theorem dX2_lookUp_45 : decode cX2_lookUp 45 = .ok (.iconst (-1), 1) := by decide +kernel
theorem dX2_lookUp_46 : decode cX2_lookUp 46 = .ok (.ireturn, 1) := by decide +kernel
theorem dX2_lookUp_47 : decode cX2_lookUp 47 = .ok (.aload_n 0, 1) := by decide +kernel
theorem dX2_lookUp_48 : decode cX2_lookUp 48 = .ok (.iload_n 3, 1) := by decide +kernel
theorem dX2_lookUp_49 : decode cX2_lookUp 49 = .ok (.invokevirtual 31, 3) := by decide +kernel
theorem dX2_lookUp_52 : decode cX2_lookUp 52 = .ok (.iconst 2, 1) := by decide +kernel
theorem dX2_lookUp_53 : decode cX2_lookUp 53 = .ok (.if_icmp .ge 6, 3) := by decide +kernel
theorem dX2_lookUp_56 : decode cX2_lookUp 56 = .ok (.bipush (-2), 2) := by decide +kernel
theorem dX2_lookUp_58 : decode cX2_lookUp 58 = .ok (.ireturn, 1) := by decide +kernel
theorem dX2_lookUp_59 : decode cX2_lookUp 59 = .ok (.aload_n 0, 1) := by decide +kernel
theorem dX2_lookUp_60 : decode cX2_lookUp 60 = .ok (.iload_n 3, 1) := by decide +kernel
theorem dX2_lookUp_61 : decode cX2_lookUp 61 = .ok (.iconst 1, 1) := by decide +kernel
theorem dX2_lookUp_62 : decode cX2_lookUp 62 = .ok (.invokevirtual 35, 3) := by decide +kernel
theorem dX2_lookUp_65 : decode cX2_lookUp 65 = .ok (.istore 5, 2) := by decide +kernel
theorem dX2_lookUp_67 : decode cX2_lookUp 67 = .ok (.iload 5, 2) := by decide +kernel
theorem dX2_lookUp_69 : decode cX2_lookUp 69 = .ok (.ifCond .eq 15, 3) := by decide +kernel
theorem dX2_lookUp_72 : decode cX2_lookUp 72 = .ok (.aload_n 0, 1) := by decide +kernel
theorem dX2_lookUp_73 : decode cX2_lookUp 73 = .ok (.iload 5, 2) := by decide +kernel
theorem dX2_lookUp_75 : decode cX2_lookUp 75 = .ok (.invokevirtual 46, 3) := by decide +kernel
theorem dX2_lookUp_78 : decode cX2_lookUp 78 = .ok (.ifCond .ne 6, 3) := by decide +kernel
theorem dX2_lookUp_81 : decode cX2_lookUp 81 = .ok (.bipush (-2), 2) := by decide +kernel
theorem dX2_lookUp_83 : decode cX2_lookUp 83 = .ok (.ireturn, 1) := by decide +kernel
theorem dX2_lookUp_84 : decode cX2_lookUp 84 = .ok (.aload_n 0, 1) := by decide +kernel
theorem dX2_lookUp_85 : decode cX2_lookUp 85 = .ok (.iload 5, 2) := by decide +kernel
theorem dX2_lookUp_87 : decode cX2_lookUp 87 = .ok (.iload_n 2, 1) := by decide +kernel
theorem dX2_lookUp_88 : decode cX2_lookUp 88 = .ok (.invokevirtual 49, 3) := by decide +kernel
theorem dX2_lookUp_91 : decode cX2_lookUp 91 = .ok (.istore 6, 2) := by decide +kernel
theorem dX2_lookUp_93 : decode cX2_lookUp 93 = .ok (.iload 6, 2) := by decide +kernel
theorem dX2_lookUp_95 : decode cX2_lookUp 95 = .ok (.iconst (-1), 1) := by decide +kernel
theorem dX2_lookUp_96 : decode cX2_lookUp 96 = .ok (.if_icmp .eq 25, 3) := by decide +kernel
theorem dX2_lookUp_99 : decode cX2_lookUp 99 = .ok (.aload_n 0, 1) := by decide +kernel
theorem dX2_lookUp_100 : decode cX2_lookUp 100 = .ok (.aload_n 0, 1) := by decide +kernel
theorem dX2_lookUp_101 : decode cX2_lookUp 101 = .ok (.iload 5, 2) := by decide +kernel
theorem dX2_lookUp_103 : decode cX2_lookUp 103 = .ok (.iload 6, 2) := by decide +kernel
theorem dX2_lookUp_105 : decode cX2_lookUp 105 = .ok (.iconst 1, 1) := by decide +kernel
theorem dX2_lookUp_106 : decode cX2_lookUp 106 = .ok (.iadd, 1) := by decide +kernel
theorem dX2_lookUp_107 : decode cX2_lookUp 107 = .ok (.invokevirtual 35, 3) := by decide +kernel
theorem dX2_lookUp_110 : decode cX2_lookUp 110 = .ok (.putfield 39, 3) := by decide +kernel
theorem dX2_lookUp_113 : decode cX2_lookUp 113 = .ok (.aload_n 0, 1) := by decide +kernel
theorem dX2_lookUp_114 : decode cX2_lookUp 114 = .ok (.iload_n 3, 1) := by decide +kernel
theorem dX2_lookUp_115 : decode cX2_lookUp 115 = .ok (.putfield 43, 3) := by decide +kernel
theorem dX2_lookUp_118 : decode cX2_lookUp 118 = .ok (.iload 4, 2) := by decide +kernel
theorem dX2_lookUp_120 : decode cX2_lookUp 120 = .ok (.ireturn, 1) := by decide +kernel
theorem dX2_lookUp_121 : decode cX2_lookUp 121 = .ok (.aload_n 0, 1) := by decide +kernel
theorem dX2_lookUp_122 : decode cX2_lookUp 122 = .ok (.iload_n 3, 1) := by decide +kernel
theorem dX2_lookUp_123 : decode cX2_lookUp 123 = .ok (.iconst 0, 1) := by decide +kernel
theorem dX2_lookUp_124 : decode cX2_lookUp 124 = .ok (.invokevirtual 35, 3) := by decide +kernel
theorem dX2_lookUp_127 : decode cX2_lookUp 127 = .ok (.istore_n 3, 1) := by decide +kernel
theorem dX2_lookUp_128 : decode cX2_lookUp 128 = .ok (.iinc 4 1, 3) := by decide +kernel
theorem dX2_lookUp_131 : decode cX2_lookUp 131 = .ok (.goto (-97), 3) := by decide +kernel
theorem dX2_lookUp_134 : decode cX2_lookUp 134 = .ok (.iload_n 3, 1) := by decide +kernel
theorem dX2_lookUp_135 : decode cX2_lookUp 135 = .ok (.ifCond .ne 7, 3) := by decide +kernel
theorem dX2_lookUp_138 : decode cX2_lookUp 138 = .ok (.iconst (-1), 1) := by decide +kernel
theorem dX2_lookUp_139 : decode cX2_lookUp 139 = .ok (.goto 5, 3) := by decide +kernel
theorem dX2_lookUp_142 : decode cX2_lookUp 142 = .ok (.bipush (-2), 2) := by decide +kernel
theorem dX2_lookUp_144 : decode cX2_lookUp 144 = .ok (.ireturn, 1) := by decide +kernel
theorem dX2_method_0 : decode cX2_method 0 = .ok (.aload_n 0, 1) := by decide +kernel
theorem dX2_method_1 : decode cX2_method 1 = .ok (.getfield 39, 3) := by decide +kernel
theorem dX2_method_4 : decode cX2_method 4 = .ok (.ireturn, 1) := by decide +kernel
theorem dX2_where_0 : decode cX2_where 0 = .ok (.aload_n 0, 1) := by decide +kernel
theorem dX2_where_1 : decode cX2_where 1 = .ok (.getfield 43, 3) := by decide +kernel
theorem dX2_where_4 : decode cX2_where 4 = .ok (.ireturn, 1) := by decide +kernel
set_option maxRecDepth 20000 in
theorem ggX2_above_X2_fieldsOf : GoodIn wsX2_above wsX2_fieldsOf := goodIn_r _ [6, 7, 8, 9, 10, 5, 11, 12, 35, 36, 37, 38, 39] (by decide +kernel) (by decide +kernel)
set_option maxRecDepth 20000 in
theorem gX2_above_X2_fieldsOf : GoodIn wsX2_above (wsV RX2 31 RX2 yX2_fieldsOf wsX2_fieldsOf) := goodIn_app (goodIn_of _ (by decide +kernel)) ggX2_above_X2_fieldsOf
set_option maxRecDepth 20000 in
theorem ggX2_above_X2_field : GoodIn wsX2_above wsX2_field := goodIn_r _ [16, 17, 35, 36, 37, 38, 39] (by decide +kernel) (by decide +kernel)
set_option maxRecDepth 20000 in
theorem gX2_above_X2_field : GoodIn wsX2_above (wsV RX2 35 RX2 yX2_field wsX2_field) := goodIn_app (goodIn_of _ (by decide +kernel)) ggX2_above_X2_field
set_option maxRecDepth 20000 in
theorem ggX2_above_X2_lookUp : GoodIn wsX2_above wsX2_lookUp := goodIn_r _ [21, 22, 1, 23, 24, 25, 5, 26, 8, 9, 10, 11, 12, 2, 3, 4, 6, 7, 13, 14, 15, 16, 17, 27, 28, 29, 30, 31, 32, 33, 34, 35, 36, 37, 38, 39] (by decide +kernel) (by decide +kernel)
set_option maxRecDepth 20000 in
theorem gX2_above_X2_lookUp : GoodIn wsX2_above (wsV RX2 52 RX2 yX2_lookUp wsX2_lookUp) := goodIn_app (goodIn_of _ (by decide +kernel)) ggX2_above_X2_lookUp
theorem dX2_above_0 : decode cX2_above 0 = .ok (.aload_n 0, 1) := by decide +kernel
theorem dX2_above_1 : decode cX2_above 1 = .ok (.getfield 43, 3) := by decide +kernel
theorem dX2_above_4 : decode cX2_above 4 = .ok (.ifCond .ne 5, 3) := by decide +kernel
theorem dX2_above_7 : decode cX2_above 7 = .ok (.iconst (-1), 1) := by decide +kernel
theorem dX2_above_8 : decode cX2_above 8 = .ok (.ireturn, 1) := by decide +kernel
theorem dX2_above_9 : decode cX2_above 9 = .ok (.aload_n 0, 1) := by decide +kernel
theorem dX2_above_10 : decode cX2_above 10 = .ok (.aload_n 0, 1) := by decide +kernel
theorem dX2_above_11 : decode cX2_above 11 = .ok (.aload_n 0, 1) := by decide +kernel
theorem dX2_above_12 : decode cX2_above 12 = .ok (.getfield 43, 3) := by decide +kernel
theorem dX2_above_15 : decode cX2_above 15 = .ok (.invokevirtual 31, 3) := by decide +kernel
theorem dX2_above_18 : decode cX2_above 18 = .ok (.ifCond .le 15, 3) := by decide +kernel
theorem dX2_above_21 : decode cX2_above 21 = .ok (.aload_n 0, 1) := by decide +kernel
theorem dX2_above_22 : decode cX2_above 22 = .ok (.aload_n 0, 1) := by decide +kernel
theorem dX2_above_23 : decode cX2_above 23 = .ok (.getfield 43, 3) := by decide +kernel
theorem dX2_above_26 : decode cX2_above 26 = .ok (.iconst 0, 1) := by decide +kernel
theorem dX2_above_27 : decode cX2_above 27 = .ok (.invokevirtual 35, 3) := by decide +kernel
theorem dX2_above_30 : decode cX2_above 30 = .ok (.goto 4, 3) := by decide +kernel
theorem dX2_above_33 : decode cX2_above 33 = .ok (.iconst 0, 1) := by decide +kernel
theorem dX2_above_34 : decode cX2_above 34 = .ok (.iload_n 1, 1) := by decide +kernel
theorem dX2_above_35 : decode cX2_above 35 = .ok (.invokevirtual 52, 3) := by decide +kernel
theorem dX2_above_38 : decode cX2_above 38 = .ok (.ireturn, 1) := by decide +kernel
set_option maxRecDepth 20000 in
theorem ggX2_inherits_X2_isValue : GoodIn wsX2_inherits wsX2_isValue := goodIn_r _ [5, 6, 7, 8, 4, 9, 10, 21, 22, 23, 24, 25] (by decide +kernel) (by decide +kernel)
set_option maxRecDepth 20000 in
theorem gX2_inherits_X2_isValue : GoodIn wsX2_inherits (wsV RX2 28 RX2 yX2_isValue wsX2_isValue) := goodIn_app (goodIn_of _ (by decide +kernel)) ggX2_inherits_X2_isValue
set_option maxRecDepth 20000 in
theorem ggX2_inherits_X2_fieldsOf : GoodIn wsX2_inherits wsX2_fieldsOf := goodIn_r _ [14, 15, 6, 7, 8, 4, 9, 10, 21, 22, 23, 24, 25] (by decide +kernel) (by decide +kernel)
set_option maxRecDepth 20000 in
theorem gX2_inherits_X2_fieldsOf : GoodIn wsX2_inherits (wsV RX2 31 RX2 yX2_fieldsOf wsX2_fieldsOf) := goodIn_app (goodIn_of _ (by decide +kernel)) ggX2_inherits_X2_fieldsOf
set_option maxRecDepth 20000 in
theorem ggX2_inherits_X2_field : GoodIn wsX2_inherits wsX2_field := goodIn_r _ [19, 20, 21, 22, 23, 24, 25] (by decide +kernel) (by decide +kernel)
set_option maxRecDepth 20000 in
theorem gX2_inherits_X2_field : GoodIn wsX2_inherits (wsV RX2 35 RX2 yX2_field wsX2_field) := goodIn_app (goodIn_of _ (by decide +kernel)) ggX2_inherits_X2_field
theorem dX2_inherits_0 : decode cX2_inherits 0 = .ok (.aload_n 0, 1) := by decide +kernel
theorem dX2_inherits_1 : decode cX2_inherits 1 = .ok (.iload_n 1, 1) := by decide +kernel
theorem dX2_inherits_2 : decode cX2_inherits 2 = .ok (.invokevirtual 28, 3) := by decide +kernel
theorem dX2_inherits_5 : decode cX2_inherits 5 = .ok (.ifCond .eq 7, 3) := by decide +kernel
theorem dX2_inherits_8 : decode cX2_inherits 8 = .ok (.iload_n 2, 1) := by decide +kernel
theorem dX2_inherits_9 : decode cX2_inherits 9 = .ok (.ifCond .ne 5, 3) := by decide +kernel
theorem dX2_inherits_12 : decode cX2_inherits 12 = .ok (.iconst 0, 1) := by decide +kernel
theorem dX2_inherits_13 : decode cX2_inherits 13 = .ok (.ireturn, 1) := by decide +kernel
theorem dX2_inherits_14 : decode cX2_inherits 14 = .ok (.iload_n 1, 1) := by decide +kernel
theorem dX2_inherits_15 : decode cX2_inherits 15 = .ok (.istore_n 3, 1) := by decide +kernel
theorem dX2_inherits_16 : decode cX2_inherits 16 = .ok (.iconst 0, 1) := by decide +kernel
theorem dX2_inherits_17 : decode cX2_inherits 17 = .ok (.istore 4, 2) := by decide +kernel
theorem dX2_inherits_19 : decode cX2_inherits 19 = .ok (.iload 4, 2) := by decide +kernel
theorem dX2_inherits_21 : decode cX2_inherits 21 = .ok (.bipush 100, 2) := by decide +kernel
theorem dX2_inherits_23 : decode cX2_inherits 23 = .ok (.if_icmp .ge 34, 3) := by decide +kernel
theorem dX2_inherits_26 : decode cX2_inherits 26 = .ok (.iload_n 3, 1) := by decide +kernel
theorem dX2_inherits_27 : decode cX2_inherits 27 = .ok (.iload_n 2, 1) := by decide +kernel
theorem dX2_inherits_28 : decode cX2_inherits 28 = .ok (.if_icmp .ne 5, 3) := by decide +kernel
theorem dX2_inherits_31 : decode cX2_inherits 31 = .ok (.iconst 1, 1) := by decide +kernel
theorem dX2_inherits_32 : decode cX2_inherits 32 = .ok (.ireturn, 1) := by decide +kernel
theorem dX2_inherits_33 : decode cX2_inherits 33 = .ok (.aload_n 0, 1) := by decide +kernel
theorem dX2_inherits_34 : decode cX2_inherits 34 = .ok (.iload_n 3, 1) := by decide +kernel
theorem dX2_inherits_35 : decode cX2_inherits 35 = .ok (.invokevirtual 31, 3) := by decide +kernel
theorem dX2_inherits_38 : decode cX2_inherits 38 = .ok (.iconst 2, 1) := by decide +kernel
theorem dX2_inherits_39 : decode cX2_inherits 39 = .ok (.if_icmp .ge 5, 3) := by decide +kernel
theorem dX2_inherits_42 : decode cX2_inherits 42 = .ok (.iconst 0, 1) := by decide +kernel
theorem dX2_inherits_43 : decode cX2_inherits 43 = .ok (.ireturn, 1) := by decide +kernel
theorem dX2_inherits_44 : decode cX2_inherits 44 = .ok (.aload_n 0, 1) := by decide +kernel
theorem dX2_inherits_45 : decode cX2_inherits 45 = .ok (.iload_n 3, 1) := by decide +kernel
theorem dX2_inherits_46 : decode cX2_inherits 46 = .ok (.iconst 0, 1) := by decide +kernel
theorem dX2_inherits_47 : decode cX2_inherits 47 = .ok (.invokevirtual 35, 3) := by decide +kernel
theorem dX2_inherits_50 : decode cX2_inherits 50 = .ok (.istore_n 3, 1) := by decide +kernel
theorem dX2_inherits_51 : decode cX2_inherits 51 = .ok (.iinc 4 1, 3) := by decide +kernel
theorem dX2_inherits_54 : decode cX2_inherits 54 = .ok (.goto (-35), 3) := by decide +kernel
theorem dX2_inherits_57 : decode cX2_inherits 57 = .ok (.iconst 0, 1) := by decide +kernel
theorem dX2_inherits_58 : decode cX2_inherits 58 = .ok (.ireturn, 1) := by decide +kernel
set_option maxRecDepth 20000 in
theorem ggX2_become_X2_isMade : GoodIn wsX2_become wsX2_isMade := goodIn_r _ [8, 2, 9, 10, 11, 12, 13] (by decide +kernel) (by decide +kernel)
set_option maxRecDepth 20000 in
theorem gX2_become_X2_isMade : GoodIn wsX2_become (wsV RX2 20 RX2 yX2_isMade wsX2_isMade) := goodIn_app (goodIn_of _ (by decide +kernel)) ggX2_become_X2_isMade
theorem dX2_become_0 : decode cX2_become 0 = .ok (.aload_n 0, 1) := by decide +kernel
theorem dX2_become_1 : decode cX2_become 1 = .ok (.iload_n 1, 1) := by decide +kernel
theorem dX2_become_2 : decode cX2_become 2 = .ok (.invokevirtual 20, 3) := by decide +kernel
theorem dX2_become_5 : decode cX2_become 5 = .ok (.ifCond .eq 11, 3) := by decide +kernel
theorem dX2_become_8 : decode cX2_become 8 = .ok (.aload_n 0, 1) := by decide +kernel
theorem dX2_become_9 : decode cX2_become 9 = .ok (.iload_n 2, 1) := by decide +kernel
theorem dX2_become_10 : decode cX2_become 10 = .ok (.invokevirtual 20, 3) := by decide +kernel
theorem dX2_become_13 : decode cX2_become 13 = .ok (.ifCond .ne 5, 3) := by decide +kernel
theorem dX2_become_16 : decode cX2_become 16 = .ok (.iconst (-1), 1) := by decide +kernel
theorem dX2_become_17 : decode cX2_become 17 = .ok (.ireturn, 1) := by decide +kernel
theorem dX2_become_18 : decode cX2_become 18 = .ok (.iconst 0, 1) := by decide +kernel
theorem dX2_become_19 : decode cX2_become 19 = .ok (.istore_n 3, 1) := by decide +kernel
theorem dX2_become_20 : decode cX2_become 20 = .ok (.iconst 1, 1) := by decide +kernel
theorem dX2_become_21 : decode cX2_become 21 = .ok (.istore 4, 2) := by decide +kernel
theorem dX2_become_23 : decode cX2_become 23 = .ok (.iload 4, 2) := by decide +kernel
theorem dX2_become_25 : decode cX2_become 25 = .ok (.sipush 401, 3) := by decide +kernel
theorem dX2_become_28 : decode cX2_become 28 = .ok (.if_icmp .ge 102, 3) := by decide +kernel
theorem dX2_become_31 : decode cX2_become 31 = .ok (.iload_n 1, 1) := by decide +kernel
theorem dX2_become_32 : decode cX2_become 32 = .ok (.iload_n 2, 1) := by decide +kernel
theorem dX2_become_33 : decode cX2_become 33 = .ok (.if_icmp .eq 97, 3) := by decide +kernel
theorem dX2_become_36 : decode cX2_become 36 = .ok (.iconst 0, 1) := by decide +kernel
theorem dX2_become_37 : decode cX2_become 37 = .ok (.istore 5, 2) := by decide +kernel
theorem dX2_become_39 : decode cX2_become 39 = .ok (.iload 5, 2) := by decide +kernel
theorem dX2_become_41 : decode cX2_become 41 = .ok (.aload_n 0, 1) := by decide +kernel
theorem dX2_become_42 : decode cX2_become 42 = .ok (.getfield 13, 3) := by decide +kernel
theorem dX2_become_45 : decode cX2_become 45 = .ok (.iload 4, 2) := by decide +kernel
theorem dX2_become_47 : decode cX2_become 47 = .ok (.iaload, 1) := by decide +kernel
theorem dX2_become_48 : decode cX2_become 48 = .ok (.if_icmp .ge 76, 3) := by decide +kernel
theorem dX2_become_51 : decode cX2_become 51 = .ok (.aload_n 0, 1) := by decide +kernel
theorem dX2_become_52 : decode cX2_become 52 = .ok (.getfield 7, 3) := by decide +kernel
theorem dX2_become_55 : decode cX2_become 55 = .ok (.iload 4, 2) := by decide +kernel
theorem dX2_become_57 : decode cX2_become 57 = .ok (.baload, 1) := by decide +kernel
theorem dX2_become_58 : decode cX2_become 58 = .ok (.ifCond .eq 66, 3) := by decide +kernel
theorem dX2_become_61 : decode cX2_become 61 = .ok (.aload_n 0, 1) := by decide +kernel
theorem dX2_become_62 : decode cX2_become 62 = .ok (.getfield 17, 3) := by decide +kernel
theorem dX2_become_65 : decode cX2_become 65 = .ok (.bipush 40, 2) := by decide +kernel
theorem dX2_become_67 : decode cX2_become 67 = .ok (.iload 4, 2) := by decide +kernel
theorem dX2_become_69 : decode cX2_become 69 = .ok (.imul, 1) := by decide +kernel
theorem dX2_become_70 : decode cX2_become 70 = .ok (.iload 5, 2) := by decide +kernel
theorem dX2_become_72 : decode cX2_become 72 = .ok (.iadd, 1) := by decide +kernel
theorem dX2_become_73 : decode cX2_become 73 = .ok (.iaload, 1) := by decide +kernel
theorem dX2_become_74 : decode cX2_become 74 = .ok (.istore 6, 2) := by decide +kernel
theorem dX2_become_76 : decode cX2_become 76 = .ok (.iload 6, 2) := by decide +kernel
theorem dX2_become_78 : decode cX2_become 78 = .ok (.iconst 2, 1) := by decide +kernel
theorem dX2_become_79 : decode cX2_become 79 = .ok (.iload_n 1, 1) := by decide +kernel
theorem dX2_become_80 : decode cX2_become 80 = .ok (.imul, 1) := by decide +kernel
theorem dX2_become_81 : decode cX2_become 81 = .ok (.if_icmp .eq 11, 3) := by decide +kernel
theorem dX2_become_84 : decode cX2_become 84 = .ok (.iload 6, 2) := by decide +kernel
theorem dX2_become_86 : decode cX2_become 86 = .ok (.iconst 2, 1) := by decide +kernel
theorem dX2_become_87 : decode cX2_become 87 = .ok (.iload_n 2, 1) := by decide +kernel
theorem dX2_become_88 : decode cX2_become 88 = .ok (.imul, 1) := by decide +kernel
theorem dX2_become_89 : decode cX2_become 89 = .ok (.if_icmp .ne 29, 3) := by decide +kernel
theorem dX2_become_92 : decode cX2_become 92 = .ok (.aload_n 0, 1) := by decide +kernel
theorem dX2_become_93 : decode cX2_become 93 = .ok (.getfield 17, 3) := by decide +kernel
theorem dX2_become_96 : decode cX2_become 96 = .ok (.bipush 40, 2) := by decide +kernel
theorem dX2_become_98 : decode cX2_become 98 = .ok (.iload 4, 2) := by decide +kernel
theorem dX2_become_100 : decode cX2_become 100 = .ok (.imul, 1) := by decide +kernel
theorem dX2_become_101 : decode cX2_become 101 = .ok (.iload 5, 2) := by decide +kernel
theorem dX2_become_103 : decode cX2_become 103 = .ok (.iadd, 1) := by decide +kernel
theorem dX2_become_104 : decode cX2_become 104 = .ok (.iconst 2, 1) := by decide +kernel
theorem dX2_become_105 : decode cX2_become 105 = .ok (.iload_n 1, 1) := by decide +kernel
theorem dX2_become_106 : decode cX2_become 106 = .ok (.imul, 1) := by decide +kernel
theorem dX2_become_107 : decode cX2_become 107 = .ok (.iconst 2, 1) := by decide +kernel
theorem dX2_become_108 : decode cX2_become 108 = .ok (.iload_n 2, 1) := by decide +kernel
theorem dX2_become_109 : decode cX2_become 109 = .ok (.imul, 1) := by decide +kernel
theorem dX2_become_110 : decode cX2_become 110 = .ok (.iadd, 1) := by decide +kernel
theorem dX2_become_111 : decode cX2_become 111 = .ok (.iload 6, 2) := by decide +kernel
theorem dX2_become_113 : decode cX2_become 113 = .ok (.isub, 1) := by decide +kernel
theorem dX2_become_114 : decode cX2_become 114 = .ok (.iastore, 1) := by decide +kernel
theorem dX2_become_115 : decode cX2_become 115 = .ok (.iinc 3 1, 3) := by decide +kernel
theorem dX2_become_118 : decode cX2_become 118 = .ok (.iinc 5 1, 3) := by decide +kernel
theorem dX2_become_121 : decode cX2_become 121 = .ok (.goto (-82), 3) := by decide +kernel
theorem dX2_become_124 : decode cX2_become 124 = .ok (.iinc 4 1, 3) := by decide +kernel
theorem dX2_become_127 : decode cX2_become 127 = .ok (.goto (-104), 3) := by decide +kernel
theorem dX2_become_130 : decode cX2_become 130 = .ok (.iload_n 3, 1) := by decide +kernel
theorem dX2_become_131 : decode cX2_become 131 = .ok (.ireturn, 1) := by decide +kernel
set_option maxRecDepth 20000 in
theorem ggX2_users_X2_isMade : GoodIn wsX2_users wsX2_isMade := goodIn_r _ [5, 6, 17, 18, 19, 20, 21] (by decide +kernel) (by decide +kernel)
set_option maxRecDepth 20000 in
theorem gX2_users_X2_isMade : GoodIn wsX2_users (wsV RX2 20 RX2 yX2_isMade wsX2_isMade) := goodIn_app (goodIn_of _ (by decide +kernel)) ggX2_users_X2_isMade
set_option maxRecDepth 20000 in
theorem ggX2_users_X2_fieldsOf : GoodIn wsX2_users wsX2_fieldsOf := goodIn_r _ [10, 11, 1, 2, 3, 4, 5, 6, 17, 18, 19, 20, 21] (by decide +kernel) (by decide +kernel)
set_option maxRecDepth 20000 in
theorem gX2_users_X2_fieldsOf : GoodIn wsX2_users (wsV RX2 31 RX2 yX2_fieldsOf wsX2_fieldsOf) := goodIn_app (goodIn_of _ (by decide +kernel)) ggX2_users_X2_fieldsOf
set_option maxRecDepth 20000 in
theorem ggX2_users_X2_field : GoodIn wsX2_users wsX2_field := goodIn_r _ [15, 16, 17, 18, 19, 20, 21] (by decide +kernel) (by decide +kernel)
set_option maxRecDepth 20000 in
theorem gX2_users_X2_field : GoodIn wsX2_users (wsV RX2 35 RX2 yX2_field wsX2_field) := goodIn_app (goodIn_of _ (by decide +kernel)) ggX2_users_X2_field
theorem dX2_users_0 : decode cX2_users 0 = .ok (.iconst 0, 1) := by decide +kernel
theorem dX2_users_1 : decode cX2_users 1 = .ok (.istore_n 2, 1) := by decide +kernel
theorem dX2_users_2 : decode cX2_users 2 = .ok (.iconst 1, 1) := by decide +kernel
theorem dX2_users_3 : decode cX2_users 3 = .ok (.istore_n 3, 1) := by decide +kernel
theorem dX2_users_4 : decode cX2_users 4 = .ok (.iload_n 3, 1) := by decide +kernel
theorem dX2_users_5 : decode cX2_users 5 = .ok (.sipush 401, 3) := by decide +kernel
theorem dX2_users_8 : decode cX2_users 8 = .ok (.if_icmp .ge 50, 3) := by decide +kernel
theorem dX2_users_11 : decode cX2_users 11 = .ok (.aload_n 0, 1) := by decide +kernel
theorem dX2_users_12 : decode cX2_users 12 = .ok (.iload_n 1, 1) := by decide +kernel
theorem dX2_users_13 : decode cX2_users 13 = .ok (.invokevirtual 20, 3) := by decide +kernel
theorem dX2_users_16 : decode cX2_users 16 = .ok (.ifCond .eq 42, 3) := by decide +kernel
theorem dX2_users_19 : decode cX2_users 19 = .ok (.iload_n 2, 1) := by decide +kernel
theorem dX2_users_20 : decode cX2_users 20 = .ok (.aload_n 0, 1) := by decide +kernel
theorem dX2_users_21 : decode cX2_users 21 = .ok (.iconst 2, 1) := by decide +kernel
theorem dX2_users_22 : decode cX2_users 22 = .ok (.iload_n 3, 1) := by decide +kernel
theorem dX2_users_23 : decode cX2_users 23 = .ok (.imul, 1) := by decide +kernel
theorem dX2_users_24 : decode cX2_users 24 = .ok (.invokevirtual 31, 3) := by decide +kernel
theorem dX2_users_27 : decode cX2_users 27 = .ok (.iconst 1, 1) := by decide +kernel
theorem dX2_users_28 : decode cX2_users 28 = .ok (.if_icmp .le 21, 3) := by decide +kernel
theorem dX2_users_31 : decode cX2_users 31 = .ok (.aload_n 0, 1) := by decide +kernel
theorem dX2_users_32 : decode cX2_users 32 = .ok (.iconst 2, 1) := by decide +kernel
theorem dX2_users_33 : decode cX2_users 33 = .ok (.iload_n 3, 1) := by decide +kernel
theorem dX2_users_34 : decode cX2_users 34 = .ok (.imul, 1) := by decide +kernel
theorem dX2_users_35 : decode cX2_users 35 = .ok (.iconst 1, 1) := by decide +kernel
theorem dX2_users_36 : decode cX2_users 36 = .ok (.invokevirtual 35, 3) := by decide +kernel
theorem dX2_users_39 : decode cX2_users 39 = .ok (.iconst 2, 1) := by decide +kernel
theorem dX2_users_40 : decode cX2_users 40 = .ok (.iload_n 1, 1) := by decide +kernel
theorem dX2_users_41 : decode cX2_users 41 = .ok (.imul, 1) := by decide +kernel
theorem dX2_users_42 : decode cX2_users 42 = .ok (.if_icmp .ne 7, 3) := by decide +kernel
theorem dX2_users_45 : decode cX2_users 45 = .ok (.iconst 1, 1) := by decide +kernel
theorem dX2_users_46 : decode cX2_users 46 = .ok (.goto 4, 3) := by decide +kernel
theorem dX2_users_49 : decode cX2_users 49 = .ok (.iconst 0, 1) := by decide +kernel
theorem dX2_users_50 : decode cX2_users 50 = .ok (.iadd, 1) := by decide +kernel
theorem dX2_users_51 : decode cX2_users 51 = .ok (.istore_n 2, 1) := by decide +kernel
theorem dX2_users_52 : decode cX2_users 52 = .ok (.iinc 3 1, 3) := by decide +kernel
theorem dX2_users_55 : decode cX2_users 55 = .ok (.goto (-51), 3) := by decide +kernel
theorem dX2_users_58 : decode cX2_users 58 = .ok (.iload_n 2, 1) := by decide +kernel
theorem dX2_users_59 : decode cX2_users 59 = .ok (.ireturn, 1) := by decide +kernel
set_option maxRecDepth 20000 in
theorem ggX2_senders_X2_fieldsOf : GoodIn wsX2_senders wsX2_fieldsOf := goodIn_r _ [5, 6, 7, 8, 9, 4, 10, 11, 21, 22, 23, 24, 25] (by decide +kernel) (by decide +kernel)
set_option maxRecDepth 20000 in
theorem gX2_senders_X2_fieldsOf : GoodIn wsX2_senders (wsV RX2 31 RX2 yX2_fieldsOf wsX2_fieldsOf) := goodIn_app (goodIn_of _ (by decide +kernel)) ggX2_senders_X2_fieldsOf
set_option maxRecDepth 20000 in
theorem ggX2_senders_X2_field : GoodIn wsX2_senders wsX2_field := goodIn_r _ [15, 16, 21, 22, 23, 24, 25] (by decide +kernel) (by decide +kernel)
set_option maxRecDepth 20000 in
theorem gX2_senders_X2_field : GoodIn wsX2_senders (wsV RX2 35 RX2 yX2_field wsX2_field) := goodIn_app (goodIn_of _ (by decide +kernel)) ggX2_senders_X2_field
set_option maxRecDepth 20000 in
theorem ggX2_senders_X2_placeOf : GoodIn wsX2_senders wsX2_placeOf := goodIn_r _ [20, 1, 2, 3, 4, 5, 6, 7, 8, 9, 10, 11, 12, 13, 14, 15, 16, 21, 22, 23, 24, 25] (by decide +kernel) (by decide +kernel)
set_option maxRecDepth 20000 in
theorem gX2_senders_X2_placeOf : GoodIn wsX2_senders (wsV RX2 49 RX2 yX2_placeOf wsX2_placeOf) := goodIn_app (goodIn_of _ (by decide +kernel)) ggX2_senders_X2_placeOf
theorem dX2_senders_0 : decode cX2_senders 0 = .ok (.iconst 0, 1) := by decide +kernel
theorem dX2_senders_1 : decode cX2_senders 1 = .ok (.istore_n 2, 1) := by decide +kernel
theorem dX2_senders_2 : decode cX2_senders 2 = .ok (.iconst 1, 1) := by decide +kernel
theorem dX2_senders_3 : decode cX2_senders 3 = .ok (.istore_n 3, 1) := by decide +kernel
theorem dX2_senders_4 : decode cX2_senders 4 = .ok (.iload_n 3, 1) := by decide +kernel
theorem dX2_senders_5 : decode cX2_senders 5 = .ok (.sipush 401, 3) := by decide +kernel
theorem dX2_senders_8 : decode cX2_senders 8 = .ok (.if_icmp .ge 45, 3) := by decide +kernel
theorem dX2_senders_11 : decode cX2_senders 11 = .ok (.iload_n 2, 1) := by decide +kernel
theorem dX2_senders_12 : decode cX2_senders 12 = .ok (.aload_n 0, 1) := by decide +kernel
theorem dX2_senders_13 : decode cX2_senders 13 = .ok (.iconst 2, 1) := by decide +kernel
theorem dX2_senders_14 : decode cX2_senders 14 = .ok (.iload_n 3, 1) := by decide +kernel
theorem dX2_senders_15 : decode cX2_senders 15 = .ok (.imul, 1) := by decide +kernel
theorem dX2_senders_16 : decode cX2_senders 16 = .ok (.invokevirtual 31, 3) := by decide +kernel
theorem dX2_senders_19 : decode cX2_senders 19 = .ok (.iconst 1, 1) := by decide +kernel
theorem dX2_senders_20 : decode cX2_senders 20 = .ok (.if_icmp .le 24, 3) := by decide +kernel
theorem dX2_senders_23 : decode cX2_senders 23 = .ok (.aload_n 0, 1) := by decide +kernel
theorem dX2_senders_24 : decode cX2_senders 24 = .ok (.aload_n 0, 1) := by decide +kernel
theorem dX2_senders_25 : decode cX2_senders 25 = .ok (.iconst 2, 1) := by decide +kernel
theorem dX2_senders_26 : decode cX2_senders 26 = .ok (.iload_n 3, 1) := by decide +kernel
theorem dX2_senders_27 : decode cX2_senders 27 = .ok (.imul, 1) := by decide +kernel
theorem dX2_senders_28 : decode cX2_senders 28 = .ok (.iconst 1, 1) := by decide +kernel
theorem dX2_senders_29 : decode cX2_senders 29 = .ok (.invokevirtual 35, 3) := by decide +kernel
theorem dX2_senders_32 : decode cX2_senders 32 = .ok (.iload_n 1, 1) := by decide +kernel
theorem dX2_senders_33 : decode cX2_senders 33 = .ok (.invokevirtual 49, 3) := by decide +kernel
theorem dX2_senders_36 : decode cX2_senders 36 = .ok (.iconst (-1), 1) := by decide +kernel
theorem dX2_senders_37 : decode cX2_senders 37 = .ok (.if_icmp .eq 7, 3) := by decide +kernel
theorem dX2_senders_40 : decode cX2_senders 40 = .ok (.iconst 1, 1) := by decide +kernel
theorem dX2_senders_41 : decode cX2_senders 41 = .ok (.goto 4, 3) := by decide +kernel
theorem dX2_senders_44 : decode cX2_senders 44 = .ok (.iconst 0, 1) := by decide +kernel
theorem dX2_senders_45 : decode cX2_senders 45 = .ok (.iadd, 1) := by decide +kernel
theorem dX2_senders_46 : decode cX2_senders 46 = .ok (.istore_n 2, 1) := by decide +kernel
theorem dX2_senders_47 : decode cX2_senders 47 = .ok (.iinc 3 1, 3) := by decide +kernel
theorem dX2_senders_50 : decode cX2_senders 50 = .ok (.goto (-46), 3) := by decide +kernel
theorem dX2_senders_53 : decode cX2_senders 53 = .ok (.iload_n 2, 1) := by decide +kernel
theorem dX2_senders_54 : decode cX2_senders 54 = .ok (.ireturn, 1) := by decide +kernel
set_option maxRecDepth 20000 in
theorem ggL_law_X1_init : GoodIn wsL_law wsX1_init := goodIn_r _ [8, 9, 10, 11, 12, 13, 14, 15, 217, 218, 219] (by decide +kernel) (by decide +kernel)
set_option maxRecDepth 20000 in
theorem gL_law_X1_init : GoodIn wsL_law (wsX1_init) := ggL_law_X1_init
set_option maxRecDepth 20000 in
theorem ggL_law_X2_init : GoodIn wsL_law wsX2_init := goodIn_r _ [18, 19, 10, 11, 20, 21, 22, 23, 24, 220, 221, 222, 223, 224] (by decide +kernel) (by decide +kernel)
set_option maxRecDepth 20000 in
theorem gL_law_X2_init : GoodIn wsL_law (wsX2_init) := ggL_law_X2_init
set_option maxRecDepth 20000 in
theorem ggL_law_X1_make : GoodIn wsL_law wsX1_make := goodIn_r _ [28, 13, 12, 29, 30, 31, 32, 33, 10, 11, 22, 34, 35, 217, 218, 219, 225, 226] (by decide +kernel) (by decide +kernel)
set_option maxRecDepth 20000 in
theorem gL_law_X1_make : GoodIn wsL_law (wsV RL 13 RX1 yX1_make wsX1_make) := goodIn_app (goodIn_of _ (by decide +kernel)) ggL_law_X1_make
set_option maxRecDepth 20000 in
theorem ggL_law_X2_make : GoodIn wsL_law wsX2_make := goodIn_r _ [39, 21, 23, 24, 220, 221, 222, 223, 224] (by decide +kernel) (by decide +kernel)
set_option maxRecDepth 20000 in
theorem gL_law_X2_make : GoodIn wsL_law (wsV RL 17 RX2 yX2_make wsX2_make) := goodIn_app (goodIn_of _ (by decide +kernel)) ggL_law_X2_make
set_option maxRecDepth 20000 in
theorem ggL_law_X1_put : GoodIn wsL_law wsX1_put := goodIn_r _ [43, 44, 45, 46, 2, 47, 13, 48, 49, 50, 51, 52, 53, 54, 55, 56, 57, 58, 59, 60, 61, 62, 30, 63, 64, 34, 65, 66, 67, 68, 217, 218, 219, 225, 226] (by decide +kernel) (by decide +kernel)
set_option maxRecDepth 20000 in
theorem gL_law_X1_put : GoodIn wsL_law (wsV RL 18 RX1 yX1_put wsX1_put) := goodIn_app (goodIn_of _ (by decide +kernel)) ggL_law_X1_put
set_option maxRecDepth 20000 in
theorem ggL_law_X2_put : GoodIn wsL_law wsX2_put := goodIn_r _ [72, 24, 73, 74, 75, 5, 76, 23, 77, 78, 79, 80, 21, 81, 82, 83, 84, 220, 221, 222, 223, 224] (by decide +kernel) (by decide +kernel)
set_option maxRecDepth 20000 in
theorem gL_law_X2_put : GoodIn wsL_law (wsV RL 22 RX2 yX2_put wsX2_put) := goodIn_app (goodIn_of _ (by decide +kernel)) ggL_law_X2_put
set_option maxRecDepth 20000 in
theorem ggL_law_X1_get : GoodIn wsL_law wsX1_get := goodIn_r _ [88, 44, 45, 46, 2, 47, 13, 89, 30, 90, 91, 34, 65, 66, 67, 68, 217, 218, 219, 225, 226] (by decide +kernel) (by decide +kernel)
set_option maxRecDepth 20000 in
theorem gL_law_X1_get : GoodIn wsL_law (wsV RL 23 RX1 yX1_get wsX1_get) := goodIn_app (goodIn_of _ (by decide +kernel)) ggL_law_X1_get
set_option maxRecDepth 20000 in
theorem ggL_law_X2_get : GoodIn wsL_law wsX2_get := goodIn_r _ [95, 24, 73, 74, 75, 5, 76, 23, 77, 78, 79, 80, 21, 220, 221, 222, 223, 224] (by decide +kernel) (by decide +kernel)
set_option maxRecDepth 20000 in
theorem gL_law_X2_get : GoodIn wsL_law (wsV RL 27 RX2 yX2_get wsX2_get) := goodIn_app (goodIn_of _ (by decide +kernel)) ggL_law_X2_get
set_option maxRecDepth 20000 in
theorem ggL_law_X1_size : GoodIn wsL_law wsX1_size := goodIn_r _ [99, 44, 45, 46, 2, 47, 13, 225, 226, 217, 218, 219] (by decide +kernel) (by decide +kernel)
set_option maxRecDepth 20000 in
theorem gL_law_X1_size : GoodIn wsL_law (wsV RL 28 RX1 yX1_size wsX1_size) := goodIn_app (goodIn_of _ (by decide +kernel)) ggL_law_X1_size
set_option maxRecDepth 20000 in
theorem ggL_law_X2_size : GoodIn wsL_law wsX2_size := goodIn_r _ [103, 23, 77, 78, 79, 5, 80, 21, 220, 221, 222, 223, 224] (by decide +kernel) (by decide +kernel)
set_option maxRecDepth 20000 in
theorem gL_law_X2_size : GoodIn wsL_law (wsV RL 32 RX2 yX2_size wsX2_size) := goodIn_app (goodIn_of _ (by decide +kernel)) ggL_law_X2_size
set_option maxRecDepth 20000 in
theorem ggL_law_X1_lookUp : GoodIn wsL_law wsX1_lookUp := goodIn_r _ [107, 14, 15, 48, 49, 50, 2, 51, 52, 53, 54, 55, 56, 57, 58, 59, 60, 61, 44, 45, 46, 47, 13, 108, 109, 110, 111, 112, 113, 114, 115, 116, 30, 117, 118, 34, 119, 120, 121, 122, 89, 90, 91, 65, 66, 67, 68, 123, 124, 125, 126, 127, 128, 129, 217, 218, 219, 225, 226] (by decide +kernel) (by decide +kernel)
set_option maxRecDepth 20000 in
theorem gL_law_X1_lookUp : GoodIn wsL_law (wsV RL 33 RX1 yX1_lookUp wsX1_lookUp) := goodIn_app (goodIn_of _ (by decide +kernel)) ggL_law_X1_lookUp
set_option maxRecDepth 20000 in
theorem ggL_law_X2_lookUp : GoodIn wsL_law wsX2_lookUp := goodIn_r _ [133, 134, 135, 81, 82, 83, 5, 84, 77, 78, 79, 80, 21, 136, 137, 138, 139, 23, 140, 141, 142, 143, 24, 144, 145, 146, 147, 148, 149, 150, 151, 220, 221, 222, 223, 224] (by decide +kernel) (by decide +kernel)
set_option maxRecDepth 20000 in
theorem gL_law_X2_lookUp : GoodIn wsL_law (wsV RL 36 RX2 yX2_lookUp wsX2_lookUp) := goodIn_app (goodIn_of _ (by decide +kernel)) ggL_law_X2_lookUp
set_option maxRecDepth 20000 in
theorem ggL_law_X1_method : GoodIn wsL_law wsX1_method := goodIn_r _ [155, 14, 217, 218, 219] (by decide +kernel) (by decide +kernel)
set_option maxRecDepth 20000 in
theorem gL_law_X1_method : GoodIn wsL_law (wsV RL 37 RX1 yX1_method wsX1_method) := goodIn_app (goodIn_of _ (by decide +kernel)) ggL_law_X1_method
set_option maxRecDepth 20000 in
theorem ggL_law_X2_method : GoodIn wsL_law wsX2_method := goodIn_r _ [159, 134, 220, 221, 222, 223, 224] (by decide +kernel) (by decide +kernel)
set_option maxRecDepth 20000 in
theorem gL_law_X2_method : GoodIn wsL_law (wsV RL 41 RX2 yX2_method wsX2_method) := goodIn_app (goodIn_of _ (by decide +kernel)) ggL_law_X2_method
set_option maxRecDepth 20000 in
theorem ggL_law_X1_where : GoodIn wsL_law wsX1_where := goodIn_r _ [163, 15, 217, 218, 219] (by decide +kernel) (by decide +kernel)
set_option maxRecDepth 20000 in
theorem gL_law_X1_where : GoodIn wsL_law (wsV RL 42 RX1 yX1_where wsX1_where) := goodIn_app (goodIn_of _ (by decide +kernel)) ggL_law_X1_where
set_option maxRecDepth 20000 in
theorem ggL_law_X2_where : GoodIn wsL_law wsX2_where := goodIn_r _ [167, 135, 220, 221, 222, 223, 224] (by decide +kernel) (by decide +kernel)
set_option maxRecDepth 20000 in
theorem gL_law_X2_where : GoodIn wsL_law (wsV RL 45 RX2 yX2_where wsX2_where) := goodIn_app (goodIn_of _ (by decide +kernel)) ggL_law_X2_where
set_option maxRecDepth 20000 in
theorem ggL_law_X1_above : GoodIn wsL_law wsX1_above := goodIn_r _ [171, 15, 59, 60, 2, 61, 172, 86, 87, 88, 44, 45, 46, 47, 13, 89, 30, 90, 91, 34, 65, 66, 67, 68, 173, 105, 106, 107, 14, 48, 49, 50, 51, 52, 53, 54, 55, 56, 57, 58, 108, 109, 110, 111, 112, 113, 114, 115, 116, 117, 118, 119, 120, 121, 122, 123, 124, 125, 126, 127, 128, 129, 217, 218, 219, 225, 226] (by decide +kernel) (by decide +kernel)
set_option maxRecDepth 20000 in
theorem gL_law_X1_above : GoodIn wsL_law (wsV RL 46 RX1 yX1_above wsX1_above) := goodIn_app (goodIn_of _ (by decide +kernel)) ggL_law_X1_above
set_option maxRecDepth 20000 in
theorem ggL_law_X2_above : GoodIn wsL_law wsX2_above := goodIn_r _ [177, 135, 136, 137, 138, 5, 139, 23, 77, 78, 79, 80, 21, 140, 141, 142, 143, 24, 178, 131, 132, 133, 134, 81, 82, 83, 84, 144, 145, 146, 147, 148, 149, 150, 151, 220, 221, 222, 223, 224] (by decide +kernel) (by decide +kernel)
set_option maxRecDepth 20000 in
theorem gL_law_X2_above : GoodIn wsL_law (wsV RL 49 RX2 yX2_above wsX2_above) := goodIn_app (goodIn_of _ (by decide +kernel)) ggL_law_X2_above
set_option maxRecDepth 20000 in
theorem ggL_law_X1_inherits : GoodIn wsL_law wsX1_inherits := goodIn_r _ [182, 48, 49, 50, 2, 51, 52, 53, 54, 55, 56, 57, 58, 59, 60, 61, 44, 45, 46, 47, 13, 112, 113, 114, 115, 116, 30, 117, 118, 34, 89, 90, 91, 65, 66, 67, 68, 217, 218, 219, 225, 226] (by decide +kernel) (by decide +kernel)
set_option maxRecDepth 20000 in
theorem gL_law_X1_inherits : GoodIn wsL_law (wsV RL 50 RX1 yX1_inherits wsX1_inherits) := goodIn_app (goodIn_of _ (by decide +kernel)) ggL_law_X1_inherits
set_option maxRecDepth 20000 in
theorem ggL_law_X2_inherits : GoodIn wsL_law wsX2_inherits := goodIn_r _ [186, 81, 82, 83, 5, 84, 77, 78, 79, 80, 21, 136, 137, 138, 139, 23, 140, 141, 142, 143, 24, 220, 221, 222, 223, 224] (by decide +kernel) (by decide +kernel)
set_option maxRecDepth 20000 in
theorem gL_law_X2_inherits : GoodIn wsL_law (wsV RL 54 RX2 yX2_inherits wsX2_inherits) := goodIn_app (goodIn_of _ (by decide +kernel)) ggL_law_X2_inherits
set_option maxRecDepth 20000 in
theorem ggL_law_X1_become : GoodIn wsL_law wsX1_become := goodIn_r _ [190, 44, 45, 46, 2, 47, 13, 191, 192, 193, 194, 30, 195, 196, 34, 217, 218, 219, 225, 226] (by decide +kernel) (by decide +kernel)
set_option maxRecDepth 20000 in
theorem gL_law_X1_become : GoodIn wsL_law (wsV RL 55 RX1 yX1_become wsX1_become) := goodIn_app (goodIn_of _ (by decide +kernel)) ggL_law_X1_become
set_option maxRecDepth 20000 in
theorem ggL_law_X2_become : GoodIn wsL_law wsX2_become := goodIn_r _ [200, 23, 21, 24, 77, 78, 79, 5, 80, 220, 221, 222, 223, 224] (by decide +kernel) (by decide +kernel)
set_option maxRecDepth 20000 in
theorem gL_law_X2_become : GoodIn wsL_law (wsV RL 58 RX2 yX2_become wsX2_become) := goodIn_app (goodIn_of _ (by decide +kernel)) ggL_law_X2_become
set_option maxRecDepth 20000 in
theorem ggL_law_X1_users : GoodIn wsL_law wsX1_users := goodIn_r _ [204, 44, 45, 46, 2, 47, 13, 116, 30, 117, 118, 34, 89, 90, 91, 65, 66, 67, 68, 191, 192, 193, 217, 218, 219, 225, 226] (by decide +kernel) (by decide +kernel)
set_option maxRecDepth 20000 in
theorem gL_law_X1_users : GoodIn wsL_law (wsV RL 59 RX1 yX1_users wsX1_users) := goodIn_app (goodIn_of _ (by decide +kernel)) ggL_law_X1_users
set_option maxRecDepth 20000 in
theorem ggL_law_X2_users : GoodIn wsL_law wsX2_users := goodIn_r _ [208, 77, 78, 79, 5, 80, 21, 136, 137, 138, 139, 23, 140, 141, 142, 143, 24, 220, 221, 222, 223, 224] (by decide +kernel) (by decide +kernel)
set_option maxRecDepth 20000 in
theorem gL_law_X2_users : GoodIn wsL_law (wsV RL 62 RX2 yX2_users wsX2_users) := goodIn_app (goodIn_of _ (by decide +kernel)) ggL_law_X2_users
set_option maxRecDepth 20000 in
theorem ggL_law_X1_senders : GoodIn wsL_law wsX1_senders := goodIn_r _ [212, 44, 45, 46, 2, 47, 13, 116, 30, 117, 118, 34, 89, 90, 91, 65, 66, 67, 68, 55, 56, 57, 58, 52, 53, 54, 59, 60, 61, 127, 128, 129, 217, 218, 219, 225, 226] (by decide +kernel) (by decide +kernel)
set_option maxRecDepth 20000 in
theorem gL_law_X1_senders : GoodIn wsL_law (wsV RL 63 RX1 yX1_senders wsX1_senders) := goodIn_app (goodIn_of _ (by decide +kernel)) ggL_law_X1_senders
set_option maxRecDepth 20000 in
theorem ggL_law_X2_senders : GoodIn wsL_law wsX2_senders := goodIn_r _ [216, 136, 137, 138, 5, 139, 23, 77, 78, 79, 80, 21, 140, 141, 142, 143, 24, 148, 149, 150, 151, 220, 221, 222, 223, 224] (by decide +kernel) (by decide +kernel)
set_option maxRecDepth 20000 in
theorem gL_law_X2_senders : GoodIn wsL_law (wsV RL 66 RX2 yX2_senders wsX2_senders) := goodIn_app (goodIn_of _ (by decide +kernel)) ggL_law_X2_senders
theorem dL_law_0 : decode cL_law 0 = .ok (.new 7, 3) := by decide +kernel
theorem dL_law_3 : decode cL_law 3 = .ok (.dup, 1) := by decide +kernel
theorem dL_law_4 : decode cL_law 4 = .ok (.invokespecial 9, 3) := by decide +kernel
theorem dL_law_7 : decode cL_law 7 = .ok (.astore_n 1, 1) := by decide +kernel
theorem dL_law_8 : decode cL_law 8 = .ok (.new 10, 3) := by decide +kernel
theorem dL_law_11 : decode cL_law 11 = .ok (.dup, 1) := by decide +kernel
theorem dL_law_12 : decode cL_law 12 = .ok (.invokespecial 12, 3) := by decide +kernel
theorem dL_law_15 : decode cL_law 15 = .ok (.astore_n 2, 1) := by decide +kernel
theorem dL_law_16 : decode cL_law 16 = .ok (.iconst 0, 1) := by decide +kernel
theorem dL_law_17 : decode cL_law 17 = .ok (.istore_n 3, 1) := by decide +kernel
theorem dL_law_18 : decode cL_law 18 = .ok (.iload_n 3, 1) := by decide +kernel
theorem dL_law_19 : decode cL_law 19 = .ok (.aload_n 0, 1) := by decide +kernel
theorem dL_law_20 : decode cL_law 20 = .ok (.arraylength, 1) := by decide +kernel
theorem dL_law_21 : decode cL_law 21 = .ok (.iconst 4, 1) := by decide +kernel
theorem dL_law_22 : decode cL_law 22 = .ok (.isub, 1) := by decide +kernel
theorem dL_law_23 : decode cL_law 23 = .ok (.if_icmp .gt 431, 3) := by decide +kernel
theorem dL_law_26 : decode cL_law 26 = .ok (.aload_n 0, 1) := by decide +kernel
theorem dL_law_27 : decode cL_law 27 = .ok (.iload_n 3, 1) := by decide +kernel
theorem dL_law_28 : decode cL_law 28 = .ok (.iaload, 1) := by decide +kernel
theorem dL_law_29 : decode cL_law 29 = .ok (.bipush 15, 2) := by decide +kernel
theorem dL_law_31 : decode cL_law 31 = .ok (.iand, 1) := by decide +kernel
theorem dL_law_32 : decode cL_law 32 = .ok (.tableswitch 416 0 11 #[64, 123, 166, 199, 222, 255, 268, 281, 304, 337, 370, 393], 64) := by decide +kernel
theorem dL_law_96 : decode cL_law 96 = .ok (.aload_n 1, 1) := by decide +kernel
theorem dL_law_97 : decode cL_law 97 = .ok (.aload_n 0, 1) := by decide +kernel
theorem dL_law_98 : decode cL_law 98 = .ok (.iload_n 3, 1) := by decide +kernel
theorem dL_law_99 : decode cL_law 99 = .ok (.iconst 1, 1) := by decide +kernel
theorem dL_law_100 : decode cL_law 100 = .ok (.iadd, 1) := by decide +kernel
theorem dL_law_101 : decode cL_law 101 = .ok (.iaload, 1) := by decide +kernel
theorem dL_law_102 : decode cL_law 102 = .ok (.aload_n 0, 1) := by decide +kernel
theorem dL_law_103 : decode cL_law 103 = .ok (.iload_n 3, 1) := by decide +kernel
theorem dL_law_104 : decode cL_law 104 = .ok (.iconst 2, 1) := by decide +kernel
theorem dL_law_105 : decode cL_law 105 = .ok (.iadd, 1) := by decide +kernel
theorem dL_law_106 : decode cL_law 106 = .ok (.iaload, 1) := by decide +kernel
theorem dL_law_107 : decode cL_law 107 = .ok (.aload_n 0, 1) := by decide +kernel
theorem dL_law_108 : decode cL_law 108 = .ok (.iload_n 3, 1) := by decide +kernel
theorem dL_law_109 : decode cL_law 109 = .ok (.iconst 3, 1) := by decide +kernel
theorem dL_law_110 : decode cL_law 110 = .ok (.iadd, 1) := by decide +kernel
theorem dL_law_111 : decode cL_law 111 = .ok (.iaload, 1) := by decide +kernel
theorem dL_law_112 : decode cL_law 112 = .ok (.ifCond .eq 7, 3) := by decide +kernel
theorem dL_law_115 : decode cL_law 115 = .ok (.iconst 1, 1) := by decide +kernel
theorem dL_law_116 : decode cL_law 116 = .ok (.goto 4, 3) := by decide +kernel
theorem dL_law_119 : decode cL_law 119 = .ok (.iconst 0, 1) := by decide +kernel
theorem dL_law_120 : decode cL_law 120 = .ok (.invokevirtual 13, 3) := by decide +kernel
theorem dL_law_123 : decode cL_law 123 = .ok (.aload_n 2, 1) := by decide +kernel
theorem dL_law_124 : decode cL_law 124 = .ok (.aload_n 0, 1) := by decide +kernel
theorem dL_law_125 : decode cL_law 125 = .ok (.iload_n 3, 1) := by decide +kernel
theorem dL_law_126 : decode cL_law 126 = .ok (.iconst 1, 1) := by decide +kernel
theorem dL_law_127 : decode cL_law 127 = .ok (.iadd, 1) := by decide +kernel
theorem dL_law_128 : decode cL_law 128 = .ok (.iaload, 1) := by decide +kernel
theorem dL_law_129 : decode cL_law 129 = .ok (.aload_n 0, 1) := by decide +kernel
theorem dL_law_130 : decode cL_law 130 = .ok (.iload_n 3, 1) := by decide +kernel
theorem dL_law_131 : decode cL_law 131 = .ok (.iconst 2, 1) := by decide +kernel
theorem dL_law_132 : decode cL_law 132 = .ok (.iadd, 1) := by decide +kernel
theorem dL_law_133 : decode cL_law 133 = .ok (.iaload, 1) := by decide +kernel
theorem dL_law_134 : decode cL_law 134 = .ok (.aload_n 0, 1) := by decide +kernel
theorem dL_law_135 : decode cL_law 135 = .ok (.iload_n 3, 1) := by decide +kernel
theorem dL_law_136 : decode cL_law 136 = .ok (.iconst 3, 1) := by decide +kernel
theorem dL_law_137 : decode cL_law 137 = .ok (.iadd, 1) := by decide +kernel
theorem dL_law_138 : decode cL_law 138 = .ok (.iaload, 1) := by decide +kernel
theorem dL_law_139 : decode cL_law 139 = .ok (.ifCond .eq 7, 3) := by decide +kernel
theorem dL_law_142 : decode cL_law 142 = .ok (.iconst 1, 1) := by decide +kernel
theorem dL_law_143 : decode cL_law 143 = .ok (.goto 4, 3) := by decide +kernel
theorem dL_law_146 : decode cL_law 146 = .ok (.iconst 0, 1) := by decide +kernel
theorem dL_law_147 : decode cL_law 147 = .ok (.invokevirtual 17, 3) := by decide +kernel
theorem dL_law_150 : decode cL_law 150 = .ok (.if_icmp .eq 298, 3) := by decide +kernel
theorem dL_law_153 : decode cL_law 153 = .ok (.iconst 0, 1) := by decide +kernel
theorem dL_law_154 : decode cL_law 154 = .ok (.ireturn, 1) := by decide +kernel
theorem dL_law_155 : decode cL_law 155 = .ok (.aload_n 1, 1) := by decide +kernel
theorem dL_law_156 : decode cL_law 156 = .ok (.aload_n 0, 1) := by decide +kernel
theorem dL_law_157 : decode cL_law 157 = .ok (.iload_n 3, 1) := by decide +kernel
theorem dL_law_158 : decode cL_law 158 = .ok (.iconst 1, 1) := by decide +kernel
theorem dL_law_159 : decode cL_law 159 = .ok (.iadd, 1) := by decide +kernel
theorem dL_law_160 : decode cL_law 160 = .ok (.iaload, 1) := by decide +kernel
theorem dL_law_161 : decode cL_law 161 = .ok (.aload_n 0, 1) := by decide +kernel
theorem dL_law_162 : decode cL_law 162 = .ok (.iload_n 3, 1) := by decide +kernel
theorem dL_law_163 : decode cL_law 163 = .ok (.iconst 2, 1) := by decide +kernel
theorem dL_law_164 : decode cL_law 164 = .ok (.iadd, 1) := by decide +kernel
theorem dL_law_165 : decode cL_law 165 = .ok (.iaload, 1) := by decide +kernel
theorem dL_law_166 : decode cL_law 166 = .ok (.aload_n 0, 1) := by decide +kernel
theorem dL_law_167 : decode cL_law 167 = .ok (.iload_n 3, 1) := by decide +kernel
theorem dL_law_168 : decode cL_law 168 = .ok (.iconst 3, 1) := by decide +kernel
theorem dL_law_169 : decode cL_law 169 = .ok (.iadd, 1) := by decide +kernel
theorem dL_law_170 : decode cL_law 170 = .ok (.iaload, 1) := by decide +kernel
theorem dL_law_171 : decode cL_law 171 = .ok (.invokevirtual 18, 3) := by decide +kernel
theorem dL_law_174 : decode cL_law 174 = .ok (.aload_n 2, 1) := by decide +kernel
theorem dL_law_175 : decode cL_law 175 = .ok (.aload_n 0, 1) := by decide +kernel
theorem dL_law_176 : decode cL_law 176 = .ok (.iload_n 3, 1) := by decide +kernel
theorem dL_law_177 : decode cL_law 177 = .ok (.iconst 1, 1) := by decide +kernel
theorem dL_law_178 : decode cL_law 178 = .ok (.iadd, 1) := by decide +kernel
theorem dL_law_179 : decode cL_law 179 = .ok (.iaload, 1) := by decide +kernel
theorem dL_law_180 : decode cL_law 180 = .ok (.aload_n 0, 1) := by decide +kernel
theorem dL_law_181 : decode cL_law 181 = .ok (.iload_n 3, 1) := by decide +kernel
theorem dL_law_182 : decode cL_law 182 = .ok (.iconst 2, 1) := by decide +kernel
theorem dL_law_183 : decode cL_law 183 = .ok (.iadd, 1) := by decide +kernel
theorem dL_law_184 : decode cL_law 184 = .ok (.iaload, 1) := by decide +kernel
theorem dL_law_185 : decode cL_law 185 = .ok (.aload_n 0, 1) := by decide +kernel
theorem dL_law_186 : decode cL_law 186 = .ok (.iload_n 3, 1) := by decide +kernel
theorem dL_law_187 : decode cL_law 187 = .ok (.iconst 3, 1) := by decide +kernel
theorem dL_law_188 : decode cL_law 188 = .ok (.iadd, 1) := by decide +kernel
theorem dL_law_189 : decode cL_law 189 = .ok (.iaload, 1) := by decide +kernel
theorem dL_law_190 : decode cL_law 190 = .ok (.invokevirtual 22, 3) := by decide +kernel
theorem dL_law_193 : decode cL_law 193 = .ok (.if_icmp .eq 255, 3) := by decide +kernel
theorem dL_law_196 : decode cL_law 196 = .ok (.iconst 0, 1) := by decide +kernel
theorem dL_law_197 : decode cL_law 197 = .ok (.ireturn, 1) := by decide +kernel
theorem dL_law_198 : decode cL_law 198 = .ok (.aload_n 1, 1) := by decide +kernel
theorem dL_law_199 : decode cL_law 199 = .ok (.aload_n 0, 1) := by decide +kernel
theorem dL_law_200 : decode cL_law 200 = .ok (.iload_n 3, 1) := by decide +kernel
theorem dL_law_201 : decode cL_law 201 = .ok (.iconst 1, 1) := by decide +kernel
theorem dL_law_202 : decode cL_law 202 = .ok (.iadd, 1) := by decide +kernel
theorem dL_law_203 : decode cL_law 203 = .ok (.iaload, 1) := by decide +kernel
theorem dL_law_204 : decode cL_law 204 = .ok (.aload_n 0, 1) := by decide +kernel
theorem dL_law_205 : decode cL_law 205 = .ok (.iload_n 3, 1) := by decide +kernel
theorem dL_law_206 : decode cL_law 206 = .ok (.iconst 2, 1) := by decide +kernel
theorem dL_law_207 : decode cL_law 207 = .ok (.iadd, 1) := by decide +kernel
theorem dL_law_208 : decode cL_law 208 = .ok (.iaload, 1) := by decide +kernel
theorem dL_law_209 : decode cL_law 209 = .ok (.invokevirtual 23, 3) := by decide +kernel
theorem dL_law_212 : decode cL_law 212 = .ok (.aload_n 2, 1) := by decide +kernel
theorem dL_law_213 : decode cL_law 213 = .ok (.aload_n 0, 1) := by decide +kernel
theorem dL_law_214 : decode cL_law 214 = .ok (.iload_n 3, 1) := by decide +kernel
theorem dL_law_215 : decode cL_law 215 = .ok (.iconst 1, 1) := by decide +kernel
theorem dL_law_216 : decode cL_law 216 = .ok (.iadd, 1) := by decide +kernel
theorem dL_law_217 : decode cL_law 217 = .ok (.iaload, 1) := by decide +kernel
theorem dL_law_218 : decode cL_law 218 = .ok (.aload_n 0, 1) := by decide +kernel
theorem dL_law_219 : decode cL_law 219 = .ok (.iload_n 3, 1) := by decide +kernel
theorem dL_law_220 : decode cL_law 220 = .ok (.iconst 2, 1) := by decide +kernel
theorem dL_law_221 : decode cL_law 221 = .ok (.iadd, 1) := by decide +kernel
theorem dL_law_222 : decode cL_law 222 = .ok (.iaload, 1) := by decide +kernel
theorem dL_law_223 : decode cL_law 223 = .ok (.invokevirtual 27, 3) := by decide +kernel
theorem dL_law_226 : decode cL_law 226 = .ok (.if_icmp .eq 222, 3) := by decide +kernel
theorem dL_law_229 : decode cL_law 229 = .ok (.iconst 0, 1) := by decide +kernel
theorem dL_law_230 : decode cL_law 230 = .ok (.ireturn, 1) := by decide +kernel
theorem dL_law_231 : decode cL_law 231 = .ok (.aload_n 1, 1) := by decide +kernel
theorem dL_law_232 : decode cL_law 232 = .ok (.aload_n 0, 1) := by decide +kernel
theorem dL_law_233 : decode cL_law 233 = .ok (.iload_n 3, 1) := by decide +kernel
theorem dL_law_234 : decode cL_law 234 = .ok (.iconst 1, 1) := by decide +kernel
theorem dL_law_235 : decode cL_law 235 = .ok (.iadd, 1) := by decide +kernel
theorem dL_law_236 : decode cL_law 236 = .ok (.iaload, 1) := by decide +kernel
theorem dL_law_237 : decode cL_law 237 = .ok (.invokevirtual 28, 3) := by decide +kernel
theorem dL_law_240 : decode cL_law 240 = .ok (.aload_n 2, 1) := by decide +kernel
theorem dL_law_241 : decode cL_law 241 = .ok (.aload_n 0, 1) := by decide +kernel
theorem dL_law_242 : decode cL_law 242 = .ok (.iload_n 3, 1) := by decide +kernel
theorem dL_law_243 : decode cL_law 243 = .ok (.iconst 1, 1) := by decide +kernel
theorem dL_law_244 : decode cL_law 244 = .ok (.iadd, 1) := by decide +kernel
theorem dL_law_245 : decode cL_law 245 = .ok (.iaload, 1) := by decide +kernel
theorem dL_law_246 : decode cL_law 246 = .ok (.invokevirtual 32, 3) := by decide +kernel
theorem dL_law_249 : decode cL_law 249 = .ok (.if_icmp .eq 199, 3) := by decide +kernel
theorem dL_law_252 : decode cL_law 252 = .ok (.iconst 0, 1) := by decide +kernel
theorem dL_law_253 : decode cL_law 253 = .ok (.ireturn, 1) := by decide +kernel
theorem dL_law_254 : decode cL_law 254 = .ok (.aload_n 1, 1) := by decide +kernel
theorem dL_law_255 : decode cL_law 255 = .ok (.aload_n 0, 1) := by decide +kernel
theorem dL_law_256 : decode cL_law 256 = .ok (.iload_n 3, 1) := by decide +kernel
theorem dL_law_257 : decode cL_law 257 = .ok (.iconst 1, 1) := by decide +kernel
theorem dL_law_258 : decode cL_law 258 = .ok (.iadd, 1) := by decide +kernel
theorem dL_law_259 : decode cL_law 259 = .ok (.iaload, 1) := by decide +kernel
theorem dL_law_260 : decode cL_law 260 = .ok (.aload_n 0, 1) := by decide +kernel
theorem dL_law_261 : decode cL_law 261 = .ok (.iload_n 3, 1) := by decide +kernel
theorem dL_law_262 : decode cL_law 262 = .ok (.iconst 2, 1) := by decide +kernel
theorem dL_law_263 : decode cL_law 263 = .ok (.iadd, 1) := by decide +kernel
theorem dL_law_264 : decode cL_law 264 = .ok (.iaload, 1) := by decide +kernel
theorem dL_law_265 : decode cL_law 265 = .ok (.invokevirtual 33, 3) := by decide +kernel
theorem dL_law_268 : decode cL_law 268 = .ok (.aload_n 2, 1) := by decide +kernel
theorem dL_law_269 : decode cL_law 269 = .ok (.aload_n 0, 1) := by decide +kernel
theorem dL_law_270 : decode cL_law 270 = .ok (.iload_n 3, 1) := by decide +kernel
theorem dL_law_271 : decode cL_law 271 = .ok (.iconst 1, 1) := by decide +kernel
theorem dL_law_272 : decode cL_law 272 = .ok (.iadd, 1) := by decide +kernel
theorem dL_law_273 : decode cL_law 273 = .ok (.iaload, 1) := by decide +kernel
theorem dL_law_274 : decode cL_law 274 = .ok (.aload_n 0, 1) := by decide +kernel
theorem dL_law_275 : decode cL_law 275 = .ok (.iload_n 3, 1) := by decide +kernel
theorem dL_law_276 : decode cL_law 276 = .ok (.iconst 2, 1) := by decide +kernel
theorem dL_law_277 : decode cL_law 277 = .ok (.iadd, 1) := by decide +kernel
theorem dL_law_278 : decode cL_law 278 = .ok (.iaload, 1) := by decide +kernel
theorem dL_law_279 : decode cL_law 279 = .ok (.invokevirtual 36, 3) := by decide +kernel
theorem dL_law_282 : decode cL_law 282 = .ok (.if_icmp .eq 166, 3) := by decide +kernel
theorem dL_law_285 : decode cL_law 285 = .ok (.iconst 0, 1) := by decide +kernel
theorem dL_law_286 : decode cL_law 286 = .ok (.ireturn, 1) := by decide +kernel
theorem dL_law_287 : decode cL_law 287 = .ok (.aload_n 1, 1) := by decide +kernel
theorem dL_law_288 : decode cL_law 288 = .ok (.invokevirtual 37, 3) := by decide +kernel
theorem dL_law_291 : decode cL_law 291 = .ok (.aload_n 2, 1) := by decide +kernel
theorem dL_law_292 : decode cL_law 292 = .ok (.invokevirtual 41, 3) := by decide +kernel
theorem dL_law_295 : decode cL_law 295 = .ok (.if_icmp .eq 153, 3) := by decide +kernel
theorem dL_law_298 : decode cL_law 298 = .ok (.iconst 0, 1) := by decide +kernel
theorem dL_law_299 : decode cL_law 299 = .ok (.ireturn, 1) := by decide +kernel
theorem dL_law_300 : decode cL_law 300 = .ok (.aload_n 1, 1) := by decide +kernel
theorem dL_law_301 : decode cL_law 301 = .ok (.invokevirtual 42, 3) := by decide +kernel
theorem dL_law_304 : decode cL_law 304 = .ok (.aload_n 2, 1) := by decide +kernel
theorem dL_law_305 : decode cL_law 305 = .ok (.invokevirtual 45, 3) := by decide +kernel
theorem dL_law_308 : decode cL_law 308 = .ok (.if_icmp .eq 140, 3) := by decide +kernel
theorem dL_law_311 : decode cL_law 311 = .ok (.iconst 0, 1) := by decide +kernel
theorem dL_law_312 : decode cL_law 312 = .ok (.ireturn, 1) := by decide +kernel
theorem dL_law_313 : decode cL_law 313 = .ok (.aload_n 1, 1) := by decide +kernel
theorem dL_law_314 : decode cL_law 314 = .ok (.aload_n 0, 1) := by decide +kernel
theorem dL_law_315 : decode cL_law 315 = .ok (.iload_n 3, 1) := by decide +kernel
theorem dL_law_316 : decode cL_law 316 = .ok (.iconst 1, 1) := by decide +kernel
theorem dL_law_317 : decode cL_law 317 = .ok (.iadd, 1) := by decide +kernel
theorem dL_law_318 : decode cL_law 318 = .ok (.iaload, 1) := by decide +kernel
theorem dL_law_319 : decode cL_law 319 = .ok (.invokevirtual 46, 3) := by decide +kernel
theorem dL_law_322 : decode cL_law 322 = .ok (.aload_n 2, 1) := by decide +kernel
theorem dL_law_323 : decode cL_law 323 = .ok (.aload_n 0, 1) := by decide +kernel
theorem dL_law_324 : decode cL_law 324 = .ok (.iload_n 3, 1) := by decide +kernel
theorem dL_law_325 : decode cL_law 325 = .ok (.iconst 1, 1) := by decide +kernel
theorem dL_law_326 : decode cL_law 326 = .ok (.iadd, 1) := by decide +kernel
theorem dL_law_327 : decode cL_law 327 = .ok (.iaload, 1) := by decide +kernel
theorem dL_law_328 : decode cL_law 328 = .ok (.invokevirtual 49, 3) := by decide +kernel
theorem dL_law_331 : decode cL_law 331 = .ok (.if_icmp .eq 117, 3) := by decide +kernel
theorem dL_law_334 : decode cL_law 334 = .ok (.iconst 0, 1) := by decide +kernel
theorem dL_law_335 : decode cL_law 335 = .ok (.ireturn, 1) := by decide +kernel
theorem dL_law_336 : decode cL_law 336 = .ok (.aload_n 1, 1) := by decide +kernel
theorem dL_law_337 : decode cL_law 337 = .ok (.aload_n 0, 1) := by decide +kernel
theorem dL_law_338 : decode cL_law 338 = .ok (.iload_n 3, 1) := by decide +kernel
theorem dL_law_339 : decode cL_law 339 = .ok (.iconst 1, 1) := by decide +kernel
theorem dL_law_340 : decode cL_law 340 = .ok (.iadd, 1) := by decide +kernel
theorem dL_law_341 : decode cL_law 341 = .ok (.iaload, 1) := by decide +kernel
theorem dL_law_342 : decode cL_law 342 = .ok (.aload_n 0, 1) := by decide +kernel
theorem dL_law_343 : decode cL_law 343 = .ok (.iload_n 3, 1) := by decide +kernel
theorem dL_law_344 : decode cL_law 344 = .ok (.iconst 2, 1) := by decide +kernel
theorem dL_law_345 : decode cL_law 345 = .ok (.iadd, 1) := by decide +kernel
theorem dL_law_346 : decode cL_law 346 = .ok (.iaload, 1) := by decide +kernel
theorem dL_law_347 : decode cL_law 347 = .ok (.invokevirtual 50, 3) := by decide +kernel
theorem dL_law_350 : decode cL_law 350 = .ok (.aload_n 2, 1) := by decide +kernel
theorem dL_law_351 : decode cL_law 351 = .ok (.aload_n 0, 1) := by decide +kernel
theorem dL_law_352 : decode cL_law 352 = .ok (.iload_n 3, 1) := by decide +kernel
theorem dL_law_353 : decode cL_law 353 = .ok (.iconst 1, 1) := by decide +kernel
theorem dL_law_354 : decode cL_law 354 = .ok (.iadd, 1) := by decide +kernel
theorem dL_law_355 : decode cL_law 355 = .ok (.iaload, 1) := by decide +kernel
theorem dL_law_356 : decode cL_law 356 = .ok (.aload_n 0, 1) := by decide +kernel
theorem dL_law_357 : decode cL_law 357 = .ok (.iload_n 3, 1) := by decide +kernel
theorem dL_law_358 : decode cL_law 358 = .ok (.iconst 2, 1) := by decide +kernel
theorem dL_law_359 : decode cL_law 359 = .ok (.iadd, 1) := by decide +kernel
theorem dL_law_360 : decode cL_law 360 = .ok (.iaload, 1) := by decide +kernel
theorem dL_law_361 : decode cL_law 361 = .ok (.invokevirtual 54, 3) := by decide +kernel
theorem dL_law_364 : decode cL_law 364 = .ok (.if_icmp .eq 84, 3) := by decide +kernel
theorem dL_law_367 : decode cL_law 367 = .ok (.iconst 0, 1) := by decide +kernel
theorem dL_law_368 : decode cL_law 368 = .ok (.ireturn, 1) := by decide +kernel
theorem dL_law_369 : decode cL_law 369 = .ok (.aload_n 1, 1) := by decide +kernel
theorem dL_law_370 : decode cL_law 370 = .ok (.aload_n 0, 1) := by decide +kernel
theorem dL_law_371 : decode cL_law 371 = .ok (.iload_n 3, 1) := by decide +kernel
theorem dL_law_372 : decode cL_law 372 = .ok (.iconst 1, 1) := by decide +kernel
theorem dL_law_373 : decode cL_law 373 = .ok (.iadd, 1) := by decide +kernel
theorem dL_law_374 : decode cL_law 374 = .ok (.iaload, 1) := by decide +kernel
theorem dL_law_375 : decode cL_law 375 = .ok (.aload_n 0, 1) := by decide +kernel
theorem dL_law_376 : decode cL_law 376 = .ok (.iload_n 3, 1) := by decide +kernel
theorem dL_law_377 : decode cL_law 377 = .ok (.iconst 2, 1) := by decide +kernel
theorem dL_law_378 : decode cL_law 378 = .ok (.iadd, 1) := by decide +kernel
theorem dL_law_379 : decode cL_law 379 = .ok (.iaload, 1) := by decide +kernel
theorem dL_law_380 : decode cL_law 380 = .ok (.invokevirtual 55, 3) := by decide +kernel
theorem dL_law_383 : decode cL_law 383 = .ok (.aload_n 2, 1) := by decide +kernel
theorem dL_law_384 : decode cL_law 384 = .ok (.aload_n 0, 1) := by decide +kernel
theorem dL_law_385 : decode cL_law 385 = .ok (.iload_n 3, 1) := by decide +kernel
theorem dL_law_386 : decode cL_law 386 = .ok (.iconst 1, 1) := by decide +kernel
theorem dL_law_387 : decode cL_law 387 = .ok (.iadd, 1) := by decide +kernel
theorem dL_law_388 : decode cL_law 388 = .ok (.iaload, 1) := by decide +kernel
theorem dL_law_389 : decode cL_law 389 = .ok (.aload_n 0, 1) := by decide +kernel
theorem dL_law_390 : decode cL_law 390 = .ok (.iload_n 3, 1) := by decide +kernel
theorem dL_law_391 : decode cL_law 391 = .ok (.iconst 2, 1) := by decide +kernel
theorem dL_law_392 : decode cL_law 392 = .ok (.iadd, 1) := by decide +kernel
theorem dL_law_393 : decode cL_law 393 = .ok (.iaload, 1) := by decide +kernel
theorem dL_law_394 : decode cL_law 394 = .ok (.invokevirtual 58, 3) := by decide +kernel
theorem dL_law_397 : decode cL_law 397 = .ok (.if_icmp .eq 51, 3) := by decide +kernel
theorem dL_law_400 : decode cL_law 400 = .ok (.iconst 0, 1) := by decide +kernel
theorem dL_law_401 : decode cL_law 401 = .ok (.ireturn, 1) := by decide +kernel
theorem dL_law_402 : decode cL_law 402 = .ok (.aload_n 1, 1) := by decide +kernel
theorem dL_law_403 : decode cL_law 403 = .ok (.aload_n 0, 1) := by decide +kernel
theorem dL_law_404 : decode cL_law 404 = .ok (.iload_n 3, 1) := by decide +kernel
theorem dL_law_405 : decode cL_law 405 = .ok (.iconst 1, 1) := by decide +kernel
theorem dL_law_406 : decode cL_law 406 = .ok (.iadd, 1) := by decide +kernel
theorem dL_law_407 : decode cL_law 407 = .ok (.iaload, 1) := by decide +kernel
theorem dL_law_408 : decode cL_law 408 = .ok (.invokevirtual 59, 3) := by decide +kernel
theorem dL_law_411 : decode cL_law 411 = .ok (.aload_n 2, 1) := by decide +kernel
theorem dL_law_412 : decode cL_law 412 = .ok (.aload_n 0, 1) := by decide +kernel
theorem dL_law_413 : decode cL_law 413 = .ok (.iload_n 3, 1) := by decide +kernel
theorem dL_law_414 : decode cL_law 414 = .ok (.iconst 1, 1) := by decide +kernel
theorem dL_law_415 : decode cL_law 415 = .ok (.iadd, 1) := by decide +kernel
theorem dL_law_416 : decode cL_law 416 = .ok (.iaload, 1) := by decide +kernel
theorem dL_law_417 : decode cL_law 417 = .ok (.invokevirtual 62, 3) := by decide +kernel
theorem dL_law_420 : decode cL_law 420 = .ok (.if_icmp .eq 28, 3) := by decide +kernel
theorem dL_law_423 : decode cL_law 423 = .ok (.iconst 0, 1) := by decide +kernel
theorem dL_law_424 : decode cL_law 424 = .ok (.ireturn, 1) := by decide +kernel
theorem dL_law_425 : decode cL_law 425 = .ok (.aload_n 1, 1) := by decide +kernel
theorem dL_law_426 : decode cL_law 426 = .ok (.aload_n 0, 1) := by decide +kernel
theorem dL_law_427 : decode cL_law 427 = .ok (.iload_n 3, 1) := by decide +kernel
theorem dL_law_428 : decode cL_law 428 = .ok (.iconst 1, 1) := by decide +kernel
theorem dL_law_429 : decode cL_law 429 = .ok (.iadd, 1) := by decide +kernel
theorem dL_law_430 : decode cL_law 430 = .ok (.iaload, 1) := by decide +kernel
theorem dL_law_431 : decode cL_law 431 = .ok (.invokevirtual 63, 3) := by decide +kernel
theorem dL_law_434 : decode cL_law 434 = .ok (.aload_n 2, 1) := by decide +kernel
theorem dL_law_435 : decode cL_law 435 = .ok (.aload_n 0, 1) := by decide +kernel
theorem dL_law_436 : decode cL_law 436 = .ok (.iload_n 3, 1) := by decide +kernel
theorem dL_law_437 : decode cL_law 437 = .ok (.iconst 1, 1) := by decide +kernel
theorem dL_law_438 : decode cL_law 438 = .ok (.iadd, 1) := by decide +kernel
theorem dL_law_439 : decode cL_law 439 = .ok (.iaload, 1) := by decide +kernel
theorem dL_law_440 : decode cL_law 440 = .ok (.invokevirtual 66, 3) := by decide +kernel
theorem dL_law_443 : decode cL_law 443 = .ok (.if_icmp .eq 5, 3) := by decide +kernel
theorem dL_law_446 : decode cL_law 446 = .ok (.iconst 0, 1) := by decide +kernel
theorem dL_law_447 : decode cL_law 447 = .ok (.ireturn, 1) := by decide +kernel
theorem dL_law_448 : decode cL_law 448 = .ok (.iinc 3 4, 3) := by decide +kernel
theorem dL_law_451 : decode cL_law 451 = .ok (.goto (-433), 3) := by decide +kernel
theorem dL_law_454 : decode cL_law 454 = .ok (.iconst 1, 1) := by decide +kernel
theorem dL_law_455 : decode cL_law 455 = .ok (.ireturn, 1) := by decide +kernel
abbrev vwCl : List vw_C := [(RX0, TX0, 2), (RX1, TX1, 3), (RX2, TX2, 5)]
end
section
/-! ===== numbers ===== -/
theorem i_0 : (0 : Int32).toInt = 0 := rfl
theorem i_1 : (1 : Int32).toInt = 1 := rfl
theorem i_2 : (2 : Int32).toInt = 2 := rfl
theorem i_4 : (4 : Int32).toInt = 4 := rfl
theorem i_40 : (40 : Int32).toInt = 40 := rfl
theorem i_100 : (100 : Int32).toInt = 100 := rfl
theorem i_400 : (400 : Int32).toInt = 400 := rfl
theorem i_401 : (401 : Int32).toInt = 401 := rfl
theorem i_m1 : (-1 : Int32).toInt = -1 := by decide
theorem i_lt {x y : Int32} : x < y ↔ x.toInt < y.toInt := Int32.lt_iff_toInt_lt
theorem i_le {x y : Int32} : x ≤ y ↔ x.toInt ≤ y.toInt := Int32.le_iff_toInt_le
theorem i_eq {x y : Int32} : x = y ↔ x.toInt = y.toInt := Int32.toInt_inj.symm
theorem i_hi (x : Int32) : x.toInt < 2147483648 := Int32.toInt_lt x
theorem i_lo (x : Int32) : -2147483648 ≤ x.toInt := Int32.le_toInt x
theorem i_cl (x : Int32) : x.toNatClampNeg = x.toInt.toNat := rfl
theorem i_shr (x : Int32) : (x >>> ((1 : Int32) &&& 31)).toInt = x.toInt / 2 := by
  rw [pk_shr x _ 1 (by decide), Int.shiftRight_eq_div_pow]
  rfl
theorem i_bm {z : Int} (h1 : -2147483648 ≤ z) (h2 : z < 2147483648) : z.bmod (2 ^ 32) = z := Int.bmod_eq_of_le (by omega) (by omega)
theorem i_and (x : Int32) : (x &&& 1 = 1) ↔ x.toInt % 2 = 1 := by
  have h1 : (x &&& 1).toBitVec = x.toBitVec &&& 1#32 := rfl
  have h2 : (x &&& 1 = 1) ↔ x.toBitVec &&& 1#32 = 1#32 := by
    rw [← h1]
    exact ⟨fun h => by rw [h]; rfl, fun h => Int32.toBitVec_inj.mp h⟩
  rw [h2]
  have h3 : x.toInt = x.toBitVec.toInt := rfl
  rw [h3, BitVec.toInt_eq_toNat_cond]
  have h4 : (x.toBitVec &&& 1#32 = 1#32) ↔ x.toBitVec.toNat % 2 = 1 := by
    constructor
    · intro h
      have h5 := congrArg BitVec.toNat h
      rw [BitVec.toNat_and] at h5
      have h6 : (1#32).toNat = 1 := rfl
      rw [h6, Nat.and_one_is_mod] at h5
      exact h5
    · intro h
      apply BitVec.eq_of_toNat_eq
      rw [BitVec.toNat_and]
      have h6 : (1#32).toNat = 1 := rfl
      rw [h6, Nat.and_one_is_mod]
      exact h
  rw [h4]
  split <;> omega
theorem i_div (x : Int32) (h : 0 ≤ x.toInt) : (x / 2).toInt = x.toInt / 2 := by
  rw [Int32.toInt_div_of_ne_right x 2 (by decide), i_2, Int.tdiv_eq_ediv_of_nonneg h]
theorem i_rem (x : Int32) : (x - x / 2 * 2 = 0) ↔ x.toInt % 2 = 0 := by
  have e : (x / 2).toInt = x.toInt.tdiv 2 := Int32.toInt_div_of_ne_right x 2 (by decide)
  have hh := i_hi x
  have hl := i_lo x
  have e0 : x.toInt.tdiv 2 * 2 + x.toInt.tmod 2 = x.toInt := by
    have := Int.tdiv_mul_add_tmod x.toInt 2
    exact this
  have e1 : -2 < x.toInt.tmod 2 ∧ x.toInt.tmod 2 < 2 := by
    constructor
    · have := Int.lt_tmod_of_pos x.toInt (show (0 : Int) < 2 by decide); omega
    · exact Int.tmod_lt_of_pos x.toInt (by decide)
  have e2 : 0 ≤ x.toInt → 0 ≤ x.toInt.tmod 2 := fun h => Int.tmod_nonneg 2 h
  have em : (x / 2 * 2).toInt = x.toInt.tdiv 2 * 2 := by
    rw [Int32.toInt_mul, e, i_2, i_bm (by omega) (by omega)]
  have es : (x - x / 2 * 2).toInt = x.toInt.tmod 2 := by
    rw [Int32.toInt_sub, em, i_bm (by omega) (by omega)]
    omega
  rw [i_eq, es, i_0]
  omega
theorem i_mul2 (x : Int32) (h1 : 0 ≤ x.toInt) (h2 : x.toInt ≤ 1000) : (2 * x).toInt = 2 * x.toInt := by
  rw [Int32.toInt_mul, i_2, i_bm (by omega) (by omega)]
theorem i_shl (x : Int32) (h1 : 0 ≤ x.toInt) (h2 : x.toInt ≤ 1000) : x <<< ((1 : Int32) &&& 31) = 2 * x := by
  obtain ⟨j, hj, rfl⟩ := nI_of (x := x) (by rw [i_lt, i_0]; omega)
  rw [nI_toInt hj] at h2
  rw [pk_shlN _ 1 (by decide) (by omega)]
  apply Int32.toInt_inj.mp
  rw [i_mul2 _ h1 (by rw [nI_toInt hj]; exact h2), nI_toInt hj, nI_toInt (by omega)]
  omega
theorem i_add (x y : Int32) (h1 : -2147483648 ≤ x.toInt + y.toInt) (h2 : x.toInt + y.toInt < 2147483648) : (x + y).toInt = x.toInt + y.toInt := by
  rw [Int32.toInt_add, i_bm (by omega) (by omega)]
theorem i_sub (x y : Int32) (h1 : -2147483648 ≤ x.toInt - y.toInt) (h2 : x.toInt - y.toInt < 2147483648) : (x - y).toInt = x.toInt - y.toInt := by
  rw [Int32.toInt_sub, i_bm (by omega) (by omega)]
theorem i_m40 (x : Int32) (h1 : 0 ≤ x.toInt) (h2 : x.toInt ≤ 1000) : (40 * x).toInt = 40 * x.toInt := by
  rw [Int32.toInt_mul, i_40, i_bm (by omega) (by omega)]
/-! ===== the objects of the document ===== -/
def b2i (b : Bool) : Int32 := if b = true then 1 else 0
/-- made, of fields, how many, the fields: by an object's number -/
abbrev Ob : Type := (Nat → Bool) × (Nat → Bool) × (Nat → Nat) × (Nat → Nat → Int32)
def tz (O : Ob) (z : Int) : Option Nat := if 1 ≤ z ∧ z ≤ 400 ∧ O.1 z.toNat = true then some z.toNat else none
def tk (O : Ob) (k : Int32) : Option Nat := tz O k.toInt
def tv (O : Ob) (v : Int32) : Option Nat := if v.toInt % 2 = 0 then tz O (v.toInt / 2) else none
def isV (O : Ob) (v : Int32) : Bool := decide (v = 0) || decide (v.toInt % 2 = 1) || (tv O v).isSome
def fl1 (n : Nat) (g : Nat → Int32) (i : Int32) : Int32 := if 0 ≤ i.toInt ∧ i.toInt < n then g i.toNatClampNeg else 0
def pmF (g : Nat → Int32) (n : Nat) (sel : Int32) : Nat → Nat → Option Nat
  | 0, _ => none
  | q + 1, i => if i + 1 < n then (if g i = sel then some i else pmF g n sel q (i + 2)) else none
def pm (g : Nat → Int32) (n : Nat) (sel : Int32) : Option Nat := pmF g n sel 21 0
def cls (O : Ob) (v : Int32) : Option Nat := match tv O v with
  | none => none
  | some j => if 2 ≤ O.2.2.1 j then some j else none
def bad (O : Ob) (d : Int32) : Bool := if d = 0 then false else match tv O d with
  | none => true
  | some e => !(O.2.1 e)
def fnd (O : Ob) (d sel : Int32) : Option Int32 := match tv O d with
  | none => none
  | some e => match pm (O.2.2.2 e) (O.2.2.1 e) sel with
    | none => none
    | some i => some (O.2.2.2 e (i + 1))
def up (O : Ob) (sel : Int32) : Nat → Int32 → Int32 → Int32 × Int32 × Int32
  | 0, c, _ => (if c = 0 then -1 else -2, 0, 0)
  | q + 1, c, n => if c = 0 then (-1, 0, 0) else match cls O c with
    | none => (-2, 0, 0)
    | some j => if bad O (O.2.2.2 j 1) = true then (-2, 0, 0) else match fnd O (O.2.2.2 j 1) sel with
      | some m => (n, m, c)
      | none => up O sel q (O.2.2.2 j 0) (n + 1)
def lk (O : Ob) (a sel : Int32) : Int32 × Int32 × Int32 := if isV O a = true ∧ isV O sel = true then up O sel 100 a 0 else (-2, 0, 0)
def fab (O : Ob) (wh : Int32) : Int32 := match tv O wh with
  | none => 0
  | some j => fl1 (O.2.2.1 j) (O.2.2.2 j) 0
def abv (O : Ob) (mt wh sel : Int32) : Int32 × Int32 × Int32 := if wh = 0 then (-1, mt, wh) else lk O (fab O wh) sel
def inh (O : Ob) (d : Int32) : Nat → Int32 → Bool
  | 0, _ => false
  | q + 1, x => if x = d then true else match cls O x with
    | none => false
    | some j => inh O d q (O.2.2.2 j 0)
def inhs (O : Ob) (c d : Int32) : Bool := isV O c && !(decide (d = 0)) && inh O d 100 c
def cnt (p : Nat → Bool) : Nat → Int32
  | 0 => 0
  | k + 1 => cnt p k + b2i (p (k + 1))
def upr (O : Ob) (dv : Int32) (k : Nat) : Bool := O.1 k && decide (2 ≤ O.2.2.1 k) && decide (O.2.2.2 k 1 = dv)
def usr (O : Ob) (d : Int32) : Int32 := match tk O d with
  | none => 0
  | some _ => cnt (upr O (2 * d)) 400
def spr (O : Ob) (sel : Int32) (k : Nat) : Bool := O.1 k && decide (2 ≤ O.2.2.1 k) && (fnd O (O.2.2.2 k 1) sel).isSome
def sdr (O : Ob) (sel : Int32) : Int32 := cnt (spr O sel) 400
def swv (x y v : Int32) : Int32 := if v = x then y else if v = y then x else v
def hit (x y v : Int32) : Bool := decide (v = x) || decide (v = y)
def xcn (g : Nat → Int32) (x y : Int32) : Nat → Int32
  | 0 => 0
  | i + 1 => xcn g x y i + b2i (hit x y (g i))
def swf (g : Nat → Int32) (x y : Int32) (n : Nat) : Nat → Int32 := fun j => if j < n then swv x y (g j) else g j
def xt (O : Ob) (x y : Int32) : Nat → Int32
  | 0 => 0
  | k + 1 => xt O x y k + (if O.1 (k + 1) = true then xcn (O.2.2.2 (k + 1)) x y (O.2.2.1 (k + 1)) else 0)
/-- the first i objects have changed -/
def xo (O : Ob) (x y : Int32) (i : Nat) : Ob := (O.1, O.2.1, O.2.2.1, fun k => if 1 ≤ k ∧ k ≤ i ∧ O.1 k = true then swf (O.2.2.2 k) x y (O.2.2.1 k) else O.2.2.2 k)
def bec (O : Ob) (a b : Int32) : Int32 × Ob := match tk O a with
  | none => (-1, O)
  | some _ => match tk O b with
    | none => (-1, O)
    | some _ => if a = b then (0, O) else (xt O (2 * a) (2 * b) 400, xo O (2 * a) (2 * b) 400)
def mkok (k n : Int32) : Prop := 1 ≤ k.toInt ∧ k.toInt ≤ 400 ∧ 0 ≤ n.toInt ∧ n.toInt ≤ 40
def mko (O : Ob) (k n : Int32) (f : Bool) : Ob := (va_up O.1 k.toNatClampNeg true, va_up O.2.1 k.toNatClampNeg f, va_up O.2.2.1 k.toNatClampNeg (if f = true then n.toNatClampNeg else 0), va_up O.2.2.2 k.toNatClampNeg (fun _ => 0))
def obf (O : Ob) (j : Nat) (g : Nat → Int32) : Ob := (O.1, O.2.1, O.2.2.1, va_up O.2.2.2 j g)
/-- put: the answer and the objects -/
def pto (O : Ob) (k i v : Int32) : Int32 × Ob := match tk O k with
  | none => (0, O)
  | some j => if isV O v = true ∧ 0 ≤ i.toInt ∧ i.toInt < O.2.2.1 j then (1, obf O j (upd (O.2.2.2 j) i.toNatClampNeg v)) else (0, O)
def gto (O : Ob) (k i : Int32) : Int32 := match tk O k with
  | none => 0
  | some j => fl1 (O.2.2.1 j) (O.2.2.2 j) i
def szo (O : Ob) (k : Int32) : Int32 := match tk O k with
  | none => -1
  | some j => if O.2.1 j = true then nI (O.2.2.1 j) else -1
def ob0 : Ob := (fun _ => false, fun _ => false, fun _ => 0, fun _ _ => 0)
end
section
/-! ===== what every contract carries of the machine: the classes, the three classes of arrays, the links between nest mates ===== -/
abbrev tys3 (cI cZ cT : ClassId) : List (ClassId × FieldType) := [(cI, .int), (cZ, .boolean), (cT, .object RX0)]
def nx (U : State) : Prop := va_Nw (.methodLinkNest RX1 22 yX0_init RX1) U ∧ va_Nw (.fieldLinkNest RX1 45 RX0 "fields" "[I" RX1) U ∧ va_Nw (.fieldLinkNest RX1 41 RX0 "ofFields" "Z" RX1) U ∧ va_Nw (.methodLinkNest RX1 33 yX0_setField RX1) U ∧ va_Nw (.methodLinkNest RX1 37 yX0_field RX1) U ∧ va_Nw (.methodLinkNest RX1 71 yX0_canBeClass RX1) U ∧ va_Nw (.methodLinkNest RX1 78 yX0_placeOfMethod RX1) U ∧ va_Nw (.methodLinkNest RX1 68 yX0_exchange RX1) U
theorem nx_warm {s U : State} (hW : s.WarmedH U.vm) (h : nx s) : nx U := ⟨va_Nw.warmM hW h.1, va_Nw.warmF hW h.2.1, va_Nw.warmF hW h.2.2.1, va_Nw.warmM hW h.2.2.2.1, va_Nw.warmM hW h.2.2.2.2.1, va_Nw.warmM hW h.2.2.2.2.2.1, va_Nw.warmM hW h.2.2.2.2.2.2.1, va_Nw.warmM hW h.2.2.2.2.2.2.2⟩
theorem nx_same {s U : State} (e : s.vm = U.vm) (h : nx s) : nx U := ⟨va_Nw.same rfl e h.1, va_Nw.same rfl e h.2.1, va_Nw.same rfl e h.2.2.1, va_Nw.same rfl e h.2.2.2.1, va_Nw.same rfl e h.2.2.2.2.1, va_Nw.same rfl e h.2.2.2.2.2.1, va_Nw.same rfl e h.2.2.2.2.2.2.1, va_Nw.same rfl e h.2.2.2.2.2.2.2⟩
def KN (D : va_G) (cI cZ cT : ClassId) (U : State) : Prop := va_K D vwCl (tys3 cI cZ cT) U ∧ nx U
theorem KN_warm {D : va_G} {cI cZ cT : ClassId} {s U : State} (hW : s.WarmedH U.vm) (h : KN D cI cZ cT s) : KN D cI cZ cT U := ⟨va_K.moved hW.alike h.1, nx_warm hW h.2⟩
/-- a method's start: its arguments, a picture of the heap, the machine -/
abbrev pK (D : va_G) (cI cZ cT : ClassId) (av : List Value) (B : Heap → Prop) : Array Value → State → Prop := va_Pc av (fun U => B U.heap ∧ KN D cI cZ cT U)
/-- the same before there are arrays: the classes, the links -/
abbrev pk0 (D : va_G) (av : List Value) (B : Heap → Prop) : Array Value → State → Prop := va_Pc av (fun U => B U.heap ∧ va_K D vwCl [] U ∧ nx U)
theorem fb_K {D : va_G} {cI cZ cT : ClassId} {av : List Value} {B : Heap → Prop} : FrameBlind (pK D cI cZ cT av B) := fun a U g mk q => ⟨q.1, q.2.1, va_K.moved (u := U) (U := U.calling g mk a) (Vm.Alike.refl U.vm) q.2.2.1, nx_same rfl q.2.2.2⟩
theorem fb_0 {D : va_G} {av : List Value} {B : Heap → Prop} : FrameBlind (pk0 D av B) := fun a U g mk q => ⟨q.1, q.2.1, va_K.moved (u := U) (U := U.calling g mk a) (Vm.Alike.refl U.vm) q.2.2.1, nx_same rfl q.2.2.2⟩
theorem one {D : va_G} {q : Nat × va_E} {H : Heap} (h : va_at D vwCl q H) : va_P D vwCl [q] H := by
  intro k x hx
  have hz : k < 1 := (List.getElem?_eq_some_iff.mp hx).1
  rw [show k = 0 by omega] at hx
  cases hx
  exact h
theorem recv {D : va_G} {cI cZ cT : ClassId} {s : State} {H : Heap} {a ci : Nat} {q : vw_C} {fs : List Value} (hKN : KN D cI cZ cT s) (h : va_at D vwCl (a, .inr (ci, fs)) H) (hc : vwCl[ci]? = some q) : ∃ cell : Cell, H[a]? = some cell ∧ cell.vm.isStatics = false ∧ s.vm.findClass q.1 = some cell.cls := va_recv hKN.1 (one h) hc (q0 := 0) rfl
theorem pre_v {D : va_G} {cI cZ cT : ClassId} {s : State} {H : Heap} {C : String} {b : Addr} {As : List Value} {B : Heap → Prop} (hB : B H) (hKN : KN D cI cZ cT s) (hr : ∃ cell : Cell, H[b]? = some cell ∧ cell.vm.isStatics = false ∧ s.vm.findClass C = some cell.cls) : PreV s H C b (pK D cI cZ cT (.ref b :: As) B) As := ⟨fb_K, hr, fun U hU hW => ⟨rfl, by rw [hU]; exact hB, KN_warm hW hKN⟩⟩
theorem pre_s {D : va_G} {cI cZ cT : ClassId} {s : State} {H : Heap} {As : List Value} {B : Heap → Prop} (hB : B H) (hKN : KN D cI cZ cT s) : PreS s H (pK D cI cZ cT As B) As := ⟨fb_K, fun U hU hW => ⟨rfl, by rw [hU]; exact hB, KN_warm hW hKN⟩⟩
theorem pre_0 {D : va_G} {s : State} {H : Heap} {As : List Value} {B : Heap → Prop} (hB : B H) (hK : va_K D vwCl [] s) (hn : nx s) : PreS s H (pk0 D As B) As := ⟨fb_0, fun U hU hW => ⟨rfl, by rw [hU]; exact hB, va_K.moved hW.alike hK, nx_warm hW hn⟩⟩
/-! ===== ends of methods that write, and calls ===== -/
def pm_Qi (post : Int32 → Heap → Prop) (A : Nat → Prop) : Array Value → State → Outcome → State → Prop := fun _ st oc t => (∃ r : Int32, oc = .returned (some (.int r)) ∧ post r t.heap) ∧ va_F A st t
def pm_Qv (post : State → Prop) (A : Nat → Prop) : Array Value → State → Outcome → State → Prop := fun _ st oc t => (oc = .returned none ∧ post t) ∧ va_F A st t
section PQ
variable {p : Program} {l : Launch} {e : Env} {R : Room} {s : State} {m : MethodId} {args : Array Value} {below : List Frame} {meth : Method} {c : Code} {H : Heap} {locs : List Loc} {cells slots : Nat} {Q : State → Prop}
variable {pc : Nat} {ls : Array Slot} {rest st0 : List Value} {a : Array Value} {A0 A1 : Nat → Prop} {H0 : Heap} {mc ms : Nat} {free : Addr → Prop}
theorem pq_i {post : Int32 → Prop} (hr : va_Run p l e R s m args below meth c H locs cells slots 0 0 (F0 m pc ls st0) rest (vp_Si post a) (fun _ => False)) (kk : ∀ r : Int32, post r → W p l e R s m args below meth c H locs cells slots Q (F0 m (pc + 3) ls (.int r :: rest))) : W p l e R s m args below meth c H locs cells slots Q (F0 m pc ls st0) := by
  intro T hT X
  obtain ⟨v, st₀, t, T', L, h0, X', hL, e1, e2, ⟨r, hv, hp, hh⟩, st⟩ := hr T hT X
  cases hv
  obtain ⟨t2, a1, b1⟩ := kk r hp T' (by rw [e1, hh, h0]) (Stand.forget X' (fun q h => (hL q h).elim))
  exact ⟨t2, st t2 a1, b1⟩
theorem pq_q {post : Option Nat → Prop} (hr : va_Run p l e R s m args below meth c H locs cells slots 0 0 (F0 m pc ls st0) rest (va_Sq post a) (fun _ => False)) (k0 : post none → W p l e R s m args below meth c H locs cells slots Q (F0 m (pc + 3) ls (.null :: rest))) (k1 : ∀ q : Nat, post (some q) → W p l e R s m args below meth c H locs cells slots Q (F0 m (pc + 3) ls (.ref q :: rest))) : W p l e R s m args below meth c H locs cells slots Q (F0 m pc ls st0) := by
  intro T hT X
  obtain ⟨v, st₀, t, T', L, h0, X', hL, e1, e2, ⟨r, hv, hp, hh⟩, st⟩ := hr T hT X
  cases hv
  cases r with
  | none =>
    obtain ⟨t2, a1, b1⟩ := k0 hp T' (by rw [e1, hh, h0]) (Stand.forget X' (fun q h => (hL q h).elim))
    exact ⟨t2, st t2 a1, b1⟩
  | some q =>
    obtain ⟨t2, a1, b1⟩ := k1 q hp T' (by rw [e1, hh, h0]) (Stand.forget X' (fun q h => (hL q h).elim))
    exact ⟨t2, st t2 a1, b1⟩
theorem pm_i {post : Int32 → Heap → Prop} (hr : va_Run p l e R s m args below meth c H locs cells slots mc ms (F0 m pc ls st0) rest (pm_Qi post A1 a) free) (hS : va_S A0 H0 H locs) (hA : ∀ q, q < H.size → A1 q → A0 q) (hf : ∀ q, free q → A0 q)
    (kk : ∀ (r : Int32) (H1 : Heap) (locs1 : List Loc), post r H1 → H.size ≤ H1.size → (∀ q : Nat, q < H.size → ¬ A1 q → H1[q]? = H[q]?) → va_S A0 H0 H1 locs1 → W p l e R s m args below meth c H1 locs1 (cells + mc) (slots + ms) Q (F0 m (pc + 3) ls (.int r :: rest))) : W p l e R s m args below meth c H locs cells slots Q (F0 m pc ls st0) := by
  intro T hT X
  obtain ⟨v, st₀, t, T', L, h0, X', hL, e1, e2, ⟨⟨r, hv, hp⟩, hz, hk⟩, st⟩ := hr T hT X
  cases hv
  rw [h0] at hz hk
  obtain ⟨t2, a1, b1⟩ := kk r T'.heap (locs ++ L) (by rw [e1]; exact hp) (by rw [e1]; exact hz) (fun q h1 h2 => by rw [e1]; exact hk q h1 h2)
    ⟨Nat.le_trans hS.1 (by rw [e1]; exact hz), fun q h1 h2 => by rw [e1, hk q (Nat.lt_of_lt_of_le h1 hS.1) (fun z => h2 (hA q (Nat.lt_of_lt_of_le h1 hS.1) z))]; exact hS.2.1 q h1 h2, fun q hq => by
      rcases List.mem_append.mp hq with h | h
      · exact hS.2.2 q h
      · exact hf _ (hL q h)⟩ T' rfl X'
  exact ⟨t2, st t2 a1, b1⟩
theorem pm_v {post : State → Prop} (hr : va_Run p l e R s m args below meth c H locs cells slots mc ms (F0 m pc ls st0) rest (pm_Qv post A1 a) free) (hS : va_S A0 H0 H locs) (hA : ∀ q, q < H.size → A1 q → A0 q) (hf : ∀ q, free q → A0 q)
    (kk : ∀ (t : State) (H1 : Heap) (locs1 : List Loc), t.heap = H1 → s.vm.Alike t.vm → post t → H.size ≤ H1.size → (∀ q : Nat, q < H.size → ¬ A1 q → H1[q]? = H[q]?) → va_S A0 H0 H1 locs1 → W p l e R s m args below meth c H1 locs1 (cells + mc) (slots + ms) Q (F0 m (pc + 3) ls rest)) : W p l e R s m args below meth c H locs cells slots Q (F0 m pc ls st0) := by
  intro T hT X
  obtain ⟨v, st₀, t, T', L, h0, X', hL, e1, e2, ⟨⟨hv, hp⟩, hz, hk⟩, st⟩ := hr T hT X
  cases hv
  rw [h0] at hz hk
  obtain ⟨t2, a1, b1⟩ := kk t T'.heap (locs ++ L) e1.symm (by rw [← e2]; exact X'.warmed.alike) hp (by rw [e1]; exact hz) (fun q h1 h2 => by rw [e1]; exact hk q h1 h2)
    ⟨Nat.le_trans hS.1 (by rw [e1]; exact hz), fun q h1 h2 => by rw [e1, hk q (Nat.lt_of_lt_of_le h1 hS.1) (fun z => h2 (hA q (Nat.lt_of_lt_of_le h1 hS.1) z))]; exact hS.2.1 q h1 h2, fun q hq => by
      rcases List.mem_append.mp hq with h | h
      · exact hS.2.2 q h
      · exact hf _ (hL q h)⟩ T' rfl X'
  exact ⟨t2, st t2 a1, b1⟩
end PQ
/-! ===== writes that tell what the rest of the heap is ===== -/
section PW
variable {p : Program} {l : Launch} {e : Env} {R : Room} {s : State} {m : MethodId} {args : Array Value} {below : List Frame} {meth : Method} {c : Code} {H : Heap} {locs : List Loc} {cells slots : Nat} {Q : State → Prop}
variable {cc : ByteArray} {pc : Nat} {ls : Array Slot} {rest : List Value} {D : va_G} {A : Nat → Prop} {a : Nat} {tys : List (ClassId × FieldType)} {H0 : Heap}
theorem pw_put (hexec : p.tables.exec = Jvm.exec) (hb : c.code = cc) {own ref C : String} {T : u_T} {N ci index : Nat} {Ts : List Cond} (hts : ∀ w ∈ Ts, w.before args s = true) (hin : ∀ w ∈ u_ws C T N, w ∈ Ts) (ty0 : Nat → FieldType) (hty : ∀ k, k < N → parseFieldDescriptor (T k).2.2.1 = some (ty0 k)) (hnm : ∀ a, a < N → ∀ b, b < N → a ≠ b → (T a).2.1 ≠ (T b).2.1) (hown : s.vm.findClass own = some m.cls) (hK : va_K D vwCl tys s) {fs : List Value} (hP : va_at D vwCl (a, .inr (ci, fs)) H) (hS0 : va_S A H0 H locs) (hAa : A a) (hc : vwCl[ci]? = some (C, T, N)) (k : Nat) (hk : k < N) (hlink : (Cond.fieldLink own index ref (T k).2.1 (T k).2.2.1).before args s = true) (hsame : ∀ x, s.fieldFound? (T k).1 (T k).2.1 (T k).2.2.1 = some x → s.fieldFound? ref (T k).2.1 (T k).2.2.1 = some x) (hfin : (T k).2.2.2 = false) {ty : FieldType} {v : Value} (hd : parseFieldDescriptor (T k).2.2.1 = some ty) (hn : narrow ty v = v) (hfit : fits ty v = true) (hl : k < fs.length)
    (hdg : decode cc pc = .ok (.putfield index, 3)) (kk : ∀ (H1 : Heap) (locs1 : List Loc), va_at D vwCl (a, .inr (ci, fs.set k v)) H1 → H1.size = H.size → (∀ q : Nat, q ≠ a → H1[q]? = H[q]?) → va_S A H0 H1 locs1 → W p l e R s m args below meth c H1 locs1 cells slots Q (F0 m (pc + 3) ls rest)) : W p l e R s m args below meth c H locs cells slots Q (F0 m pc ls (v :: .ref a :: rest)) := by
  have hap := va_apart (own := own) hts hin ty0 hty hnm hK hc
  obtain ⟨r, h1, cell, q1, q2, q3, q4⟩ := hP
  have hr : r = (C, T, N) := Option.some.inj (h1.symm.trans hc)
  subst hr
  obtain ⟨hS, hfc, kC, hkC, hkind⟩ := hK.1 ci _ hc
  obtain ⟨cf, kf, fi, f, hi, hsl⟩ := hS k hk
  have hlay := hts _ (hin _ (u_in_lay hk))
  unfold u_lay at hlay
  rw [if_neg (by rw [hfin]; decide)] at hlay
  have hst := (u_facts hfc hkC (u_lays hts hin hk) hi).1
  have h6 := u_store hfc hkC hkind hlay hi hd hn hfit
  refine W.putK hexec hb (f := f) ⟨hown, hlink, ⟨_, _, _, hsame _ hi⟩, hst⟩ (by rw [q2]; exact h6) q1 q3 (by rw [hsl]; exact k2_hasslot (q4 k hk)) rfl rfl hdg fun H' e1 e2 e3 => ?_
  rw [hsl] at e1 ⊢
  exact kk H' _ ⟨_, hc, t_OB.to (V := updV (vp_V fs) k v) ⟨_, e1, q2, q3, t_set q4 hap hk v⟩ (fun j _ => vp_updV_set hl v j)⟩ e2 e3 (hS0.put e2 e3 hAa)
theorem pw_aast (hexec : p.tables.exec = Jvm.exec) (hb : c.code = cc) (hK : va_K D vwCl tys s) (hS : va_S A H0 H locs) (hAa : A a) (t0 ci : Nat) {cA : ClassId} {r : vw_C} {n v : Nat} {vs : List Value} {f : Nat → Option Nat} (hP : va_at D vwCl (a, .inl (cA, n, .inr (.inr (.inr (.inr f))))) H) (ht : tys[t0]? = some (cA, .object r.1)) (hv : va_at D vwCl (v, .inr (ci, vs)) H) (hc : vwCl[ci]? = some r) {i : Int32} (hin : vp_in i n) (hdg : decode cc pc = .ok (.aastore, 1))
    (kk : ∀ (H1 : Heap) (locs1 : List Loc), va_at D vwCl (a, .inl (cA, n, .inr (.inr (.inr (.inr (va_up f i.toNatClampNeg (some v))))))) H1 → H1.size = H.size → (∀ q : Nat, q ≠ a → H1[q]? = H[q]?) → va_S A H0 H1 locs1 → W p l e R s m args below meth c H1 locs1 cells slots Q (F0 m (pc + 1) ls rest)) : W p l e R s m args below meth c H locs cells slots Q (F0 m pc ls (.ref v :: .int i :: .ref a :: rest)) := by
  have hlt : i.toNatClampNeg < n := Nat.not_le.mp fun q => hin (Or.inr q)
  have h0 : ¬ i < 0 := fun q => hin (Or.inl q)
  obtain ⟨r', hr', cellV, g1, g2, g3, -⟩ := hv
  have hcls := (hK.1 ci r hc).2
  obtain ⟨kA, comp, k1, k2, k3, -⟩ := (hK.2 t0 _ ht).2
  have hcomp : comp = D.1 ci := Option.some.inj (k3.symm.trans hcls.1)
  subst hcomp
  obtain ⟨kC, hkC, -⟩ := hcls.2
  refine W.aast hexec hb hP (fun q h => by cases h) (fun h => by cases h) k1 k2 rfl hkC ⟨h0, by show _ < (arrV _ _ _).slots.size; rw [arrV_size]; exact hlt⟩ g1 (fun q h => by rw [g3] at h; cases h) (by rw [g2]; exact hkC) (by rw [g2]; exact va_assign hcls) rfl rfl hdg fun H1 e z oq => ?_
  refine kk H1 _ ?_ z oq (hS.put z oq hAa)
  show H1[a]? = some (vp_cell _ _)
  rw [e]
  rw [vp_cell_q, vp_cell_q, arrV_store]
  congr 2
  funext q
  by_cases hq : q = i.toNatClampNeg
  · subst hq
    simp [updV, va_up, va_rf]
  · simp [updV, va_up, hq]
theorem pw_new (hexec : p.tables.exec = Jvm.exec) (hb : c.code = cc) {own C : String} {T : u_T} {N ci index : Nat} {Ts : List Cond} (hts : ∀ w ∈ Ts, w.before args s = true) (hin : ∀ w ∈ u_ws C T N, w ∈ Ts) (ty : Nat → FieldType) (hty : ∀ k, k < N → parseFieldDescriptor (T k).2.2.1 = some (ty k)) (hown : s.vm.findClass own = some m.cls) (hcl : (Cond.classLink own index C).before args s = true) (hinst : (Cond.instantiable C N).before args s = true) (hini : (Cond.initialized C).before args s = true)
    (hK : va_K D vwCl tys s) (hS : va_S A H0 H locs) (hc : vwCl[ci]? = some (C, T, N)) {fs : List Value} (hfs : ∀ j, j < N → defaultValue (ty j) = vp_V fs j) (hcells : cells + 1 ≤ R.cells) (hslots : slots + N ≤ R.slots) (hdg : decode cc pc = .ok (.new index, 3))
    (kk : ∀ (q : Nat) (H1 : Heap), q = H.size → va_at D vwCl (q, .inr (ci, fs)) H1 → H1.size = H.size + 1 → (∀ x : Nat, x < H.size → H1[x]? = H[x]?) → va_S A H0 H1 locs →
      W p l e R s m args below meth c H1 locs (cells + 1) (slots + N) Q (F0 m (pc + 3) ls (.ref q :: rest))) : W p l e R s m args below meth c H locs cells slots Q (F0 m pc ls rest) := by
  have hKn := hK.1 ci _ hc
  refine W.newcK hexec hb hown hcl hinst hini rfl hdg hcells hslots hKn.2.1 rfl fun H1 kC hkC e1 z1 o1 => ?_
  exact kk H.size H1 rfl ⟨_, hc, (u_born ty hts hin hKn hkC e1 hty).to hfs⟩ z1 o1 ⟨Nat.le_trans hS.1 (by omega), fun x h1 h2 => (o1 x (Nat.lt_of_lt_of_le h1 hS.1)).trans (hS.2.1 x h1 h2), hS.2.2⟩
end PW
end
section
theorem b2i_t : b2i true = 1 := rfl
theorem b2i_f : b2i false = 0 := rfl
section PB
variable {p : Program} {l : Launch} {e : Env} {R : Room} {s : State} {m : MethodId} {args : Array Value} {below : List Frame} {meth : Method} {c : Code} {H : Heap} {locs : List Loc} {cells slots : Nat} {Q : State → Prop}
variable {pc : Nat} {ls : Array Slot} {rest st0 : List Value} {a : Array Value}
theorem pq_b {B : Bool} (hr : va_Run p l e R s m args below meth c H locs cells slots 0 0 (F0 m pc ls st0) rest (vp_Si (fun r => r = b2i B) a) (fun _ => False)) (k0 : B = false → W p l e R s m args below meth c H locs cells slots Q (F0 m (pc + 3) ls (.int 0 :: rest))) (k1 : B = true → W p l e R s m args below meth c H locs cells slots Q (F0 m (pc + 3) ls (.int 1 :: rest))) : W p l e R s m args below meth c H locs cells slots Q (F0 m pc ls st0) := by
  refine pq_i hr (fun r h => ?_)
  cases B with
  | false => rw [h]; exact k0 rfl
  | true => rw [h]; exact k1 rfl
end PB
/-! ===== an object of fields or bytes: its two cells ===== -/
def tg (D : va_G) (cI : ClassId) (a f : Nat) (fb : Bool) (n : Nat) (g : Nat → Int32) (H : Heap) : Prop :=
  va_at D vwCl (a, .inr (0, [.ref f, .int (b2i fb)])) H ∧ va_at D vwCl (f, .inl (cI, n, .inl g)) H ∧ n ≤ 40
theorem tg_keep {D : va_G} {cI : ClassId} {a f : Nat} {fb : Bool} {n : Nat} {g : Nat → Int32} {H H1 : Heap} (h : tg D cI a f fb n g H) (ka : H1[a]? = H[a]?) (kf : H1[f]? = H[f]?) : tg D cI a f fb n g H1 := ⟨h.1.kept ka, h.2.1.kept kf, h.2.2⟩
/-- what a look at an object's number answers: its address, and its cells -/
def tp (D : va_G) (cI : ClassId) (ρ : Nat → Nat) (th : Nat → Option Nat) (O : Ob) (o : Option Nat) (H : Heap) (r : Option Nat) : Prop :=
  (o = none ∧ r = none) ∨ ∃ j a f, o = some j ∧ r = some a ∧ th j = some a ∧ ρ a = 2 * j + 3 ∧ ρ f = 2 * j + 4 ∧ 1 ≤ j ∧ j ≤ 400 ∧ O.1 j = true ∧ tg D cI a f (O.2.1 j) (O.2.2.1 j) (O.2.2.2 j) H
theorem tp_none {D : va_G} {cI : ClassId} {ρ : Nat → Nat} {th : Nat → Option Nat} {O : Ob} {o : Option Nat} {H : Heap} (h : tp D cI ρ th O o H none) : o = none := by
  rcases h with ⟨h1, -⟩ | ⟨j, a, f, -, h1, -⟩
  · exact h1
  · cases h1
theorem tp_some {D : va_G} {cI : ClassId} {ρ : Nat → Nat} {th : Nat → Option Nat} {O : Ob} {o : Option Nat} {H : Heap} {a : Nat} (h : tp D cI ρ th O o H (some a)) : ∃ j f, o = some j ∧ th j = some a ∧ ρ a = 2 * j + 3 ∧ ρ f = 2 * j + 4 ∧ 1 ≤ j ∧ j ≤ 400 ∧ O.1 j = true ∧ tg D cI a f (O.2.1 j) (O.2.2.1 j) (O.2.2.2 j) H := by
  rcases h with ⟨-, h1⟩ | ⟨j, a', f, h0, h1, h2⟩
  · cases h1
  · cases h1
    exact ⟨j, f, h0, h2⟩
/-- the class's state: its object, the row of things, each thing; ρ tells of each own address what it is, so they are apart -/
def px (D : va_G) (cI cT : ClassId) (ρ : Nat → Nat) (h tq : Nat) (th : Nat → Option Nat) (O : Ob) (mt wh : Int32) (H : Heap) : Prop :=
  va_at D vwCl (h, .inr (1, [.ref tq, .int mt, .int wh])) H ∧ va_at D vwCl (tq, .inl (cT, 401, .inr (.inr (.inr (.inr th))))) H ∧ ρ h = 1 ∧ ρ tq = 2 ∧ (∀ q, ρ q ≠ 0 → q < H.size) ∧ wh.toInt % 2 = 0 ∧
  ∀ k, 1 ≤ k → k ≤ 400 → (O.1 k = false ∧ th k = none) ∨ (O.1 k = true ∧ ∃ a f, th k = some a ∧ ρ a = 2 * k + 3 ∧ ρ f = 2 * k + 4 ∧ tg D cI a f (O.2.1 k) (O.2.2.1 k) (O.2.2.2 k) H)
theorem px_keep {D : va_G} {cI cT : ClassId} {ρ : Nat → Nat} {h tq : Nat} {th : Nat → Option Nat} {O : Ob} {mt wh : Int32} {H H1 : Heap} (hp : px D cI cT ρ h tq th O mt wh H) (hz : H.size ≤ H1.size) (hk : ∀ q, ρ q ≠ 0 → H1[q]? = H[q]?) : px D cI cT ρ h tq th O mt wh H1 := by
  obtain ⟨h1, h2, r1, r2, hs, he, ho⟩ := hp
  refine ⟨h1.kept (hk h (by rw [r1]; decide)), h2.kept (hk tq (by rw [r2]; decide)), r1, r2, fun q hq => Nat.lt_of_lt_of_le (hs q hq) hz, he, fun k hk1 hk2 => ?_⟩
  rcases ho k hk1 hk2 with hn | ⟨hm, a, f, e1, e2, e3, ht⟩
  · exact Or.inl hn
  · exact Or.inr ⟨hm, a, f, e1, e2, e3, tg_keep ht (hk a (by rw [e2]; omega)) (hk f (by rw [e3]; omega))⟩
/-- the object's own cell has changed, nothing else -/
theorem px_found {D : va_G} {cI cT : ClassId} {ρ : Nat → Nat} {h tq : Nat} {th : Nat → Option Nat} {O : Ob} {mt wh mt' wh' : Int32} {H H1 : Heap} (hp : px D cI cT ρ h tq th O mt wh H) (hz : H1.size = H.size) (hk : ∀ q, q ≠ h → H1[q]? = H[q]?) (hh : va_at D vwCl (h, .inr (1, [.ref tq, .int mt', .int wh'])) H1) (hw : wh'.toInt % 2 = 0) : px D cI cT ρ h tq th O mt' wh' H1 := by
  obtain ⟨h1, h2, r1, r2, hs, he, ho⟩ := hp
  have hne : ∀ q, ρ q ≠ 1 → q ≠ h := fun q hq e => hq (by rw [e]; exact r1)
  refine ⟨hh, h2.kept (hk tq (hne tq (by rw [r2]; decide))), r1, r2, fun q hq => by rw [hz]; exact hs q hq, hw, fun k hk1 hk2 => ?_⟩
  rcases ho k hk1 hk2 with hn | ⟨hm, a, f, e1, e2, e3, ht⟩
  · exact Or.inl hn
  · exact Or.inr ⟨hm, a, f, e1, e2, e3, tg_keep ht (hk a (hne a (by rw [e2]; omega))) (hk f (hne f (by rw [e3]; omega)))⟩
/-- the fields of one object have changed, nothing else -/
theorem px_fields {D : va_G} {cI cT : ClassId} {ρ : Nat → Nat} {h tq : Nat} {th : Nat → Option Nat} {O : Ob} {mt wh : Int32} {H H1 : Heap} {j a f : Nat} {g : Nat → Int32} (hp : px D cI cT ρ h tq th O mt wh H) (hj : th j = some a) (hf : ρ f = 2 * j + 4) (ht : tg D cI a f (O.2.1 j) (O.2.2.1 j) (O.2.2.2 j) H) (hz : H.size ≤ H1.size) (hk : ∀ q, q < H.size → q ≠ f → H1[q]? = H[q]?) (hg : va_at D vwCl (f, .inl (cI, O.2.2.1 j, .inl g)) H1) : px D cI cT ρ h tq th (obf O j g) mt wh H1 := by
  obtain ⟨h1, h2, r1, r2, hs, he, ho⟩ := hp
  have hk' : ∀ q, ρ q ≠ 0 → ρ q ≠ 2 * j + 4 → H1[q]? = H[q]? := fun q hq hq2 => hk q (hs q hq) (fun e => hq2 (by rw [e]; exact hf))
  refine ⟨h1.kept (hk' h (by rw [r1]; decide) (by rw [r1]; omega)), h2.kept (hk' tq (by rw [r2]; decide) (by rw [r2]; omega)), r1, r2, fun q hq => Nat.lt_of_lt_of_le (hs q hq) hz, he, fun k hk1 hk2 => ?_⟩
  rcases ho k hk1 hk2 with hn | ⟨hm, a2, f2, e1, e2, e3, ht2⟩
  · exact Or.inl hn
  · refine Or.inr ⟨hm, a2, f2, e1, e2, e3, ?_⟩
    by_cases hkj : k = j
    · subst hkj
      have ea : a2 = a := Option.some.inj (e1.symm.trans hj)
      subst ea
      have ef : f2 = f := by
        have q1 := ht2.1
        have q2 := ht.1
        obtain ⟨r, g1, cell, g2, g3, g4, g5⟩ := q1
        obtain ⟨r', g1', cell', g2', g3', g4', g5'⟩ := q2
        have er : r = (RX0, TX0, 2) := (Option.some.inj g1).symm
        have er' : r' = (RX0, TX0, 2) := (Option.some.inj g1').symm
        subst er
        subst er'
        have ec : cell = cell' := Option.some.inj (g2.symm.trans g2')
        subst ec
        have q3 := (g5 0 (by decide)).symm.trans (g5' 0 (by decide))
        have q4 : Slot.val (Value.ref f2) = Slot.val (Value.ref f) := by simpa [vp_V] using q3
        cases q4
        rfl
      subst ef
      refine ⟨ht2.1.kept (hk' a2 (by rw [e2]; omega) (by rw [e2]; omega)), ?_, ht2.2.2⟩
      show va_at D vwCl (f2, .inl (cI, _, .inl (va_up O.2.2.2 k g k))) H1
      rw [va_up_self]
      exact hg
    · show tg D cI a2 f2 (O.2.1 k) (O.2.2.1 k) (va_up O.2.2.2 j g k) H1
      rw [va_up_ne _ _ hkj]
      exact tg_keep ht2 (hk' a2 (by rw [e2]; omega) (by rw [e2]; omega)) (hk' f2 (by rw [e3]; omega) (by rw [e3]; omega))
theorem px_tz {D : va_G} {cI cT : ClassId} {ρ : Nat → Nat} {h tq : Nat} {th : Nat → Option Nat} {O : Ob} {mt wh : Int32} {H : Heap} (hp : px D cI cT ρ h tq th O mt wh H) {z : Int} (h1 : 1 ≤ z) (h2 : z ≤ 400) : tp D cI ρ th O (tz O z) H (th z.toNat) := by
  obtain ⟨-, -, -, -, -, -, ho⟩ := hp
  unfold tz
  rcases ho z.toNat (by omega) (by omega) with ⟨hm, hn⟩ | ⟨hm, a, f, e1, e2, e3, ht⟩
  · rw [if_neg (by rw [hm]; simp)]
    exact Or.inl ⟨rfl, hn⟩
  · rw [if_pos ⟨h1, h2, hm⟩]
    exact Or.inr ⟨_, a, f, rfl, e1, e1, e2, e3, by omega, by omega, hm, ht⟩
theorem tz_out {O : Ob} {z : Int} (h : z < 1 ∨ 400 < z) : tz O z = none := by
  unfold tz
  rw [if_neg (by omega)]
theorem tz_some {O : Ob} {z : Int} {j : Nat} (h : tz O z = some j) : 1 ≤ z ∧ z ≤ 400 ∧ j = z.toNat ∧ O.1 j = true := by
  unfold tz at h
  split at h
  · rename_i hc
    cases h
    exact ⟨hc.1, hc.2.1, rfl, hc.2.2⟩
  · cases h
end
section
theorem iw_X0_canBeClass_X0 : ∀ w ∈ wsX00, w ∈ wsX0_canBeClass := by decide +kernel
theorem iw_X0_hasField_X0 : ∀ w ∈ wsX00, w ∈ wsX0_hasField := by decide +kernel
theorem iw_X0_field_X0 : ∀ w ∈ wsX00, w ∈ wsX0_field := by decide +kernel
theorem iw_X0_setField_X0 : ∀ w ∈ wsX00, w ∈ wsX0_setField := by decide +kernel
theorem iw_X0_placeOfMethod_X0 : ∀ w ∈ wsX00, w ∈ wsX0_placeOfMethod := by decide +kernel
theorem iw_X0_exchange_X0 : ∀ w ∈ wsX00, w ∈ wsX0_exchange := by decide +kernel
theorem iw_X0_init_X0 : ∀ w ∈ wsX00, w ∈ wsX0_init := by decide +kernel
theorem b2i_yes {p : Prop} [Decidable p] (h : p) : (1 : Int32) = b2i (decide p) := by rw [decide_eq_true h]; rfl
theorem b2i_no {p : Prop} [Decidable p] (h : ¬ p) : (0 : Int32) = b2i (decide p) := by rw [decide_eq_false h]; rfl
theorem nI_s2 (i : Nat) : nI i + 2 = nI (i + 2) := by
  rw [nI_succ, nI_succ, Int32.add_assoc]
  rfl
def pmr (o : Option Nat) : Int32 := match o with
  | none => -1
  | some i => nI (i + 1)
section PX
variable {p : Program} {l : Launch} {e : Env} {R : Room} {s : State} {m : MethodId} {args : Array Value} {below : List Frame} {meth : Method} {c : Code} {H : Heap} {locs : List Loc} {cells slots : Nat} {Q : State → Prop}
variable {cc : ByteArray} {pc : Nat} {ls : Array Slot} {rest : List Value} {D : va_G} {A : Nat → Prop} {a : Nat} {tys : List (ClassId × FieldType)} {H0 : Heap}
theorem pw_iast (hexec : p.tables.exec = Jvm.exec) (hb : c.code = cc) (hK : va_K D vwCl tys s) (hS : va_S A H0 H locs) (hAa : A a) (t0 : Nat) {cA : ClassId} {n : Nat} {f : Nat → Int32} (hP : va_at D vwCl (a, .inl (cA, n, .inl f)) H) (ht : tys[t0]? = some (cA, .int)) {i x : Int32} (hin : vp_in i n) (hdg : decode cc pc = .ok (.iastore, 1))
    (kk : ∀ (H1 : Heap) (locs1 : List Loc), va_at D vwCl (a, .inl (cA, n, .inl (upd f i.toNatClampNeg x))) H1 → H1.size = H.size → (∀ q : Nat, q ≠ a → H1[q]? = H[q]?) → va_S A H0 H1 locs1 → W p l e R s m args below meth c H1 locs1 cells slots Q (F0 m (pc + 1) ls rest)) : W p l e R s m args below meth c H locs cells slots Q (F0 m pc ls (.int x :: .int i :: .ref a :: rest)) := by
  refine W.iast hexec hb hP ((hK.2 t0 _ ht).1 n (fun j => .int (f j))) (fun q => by cases q) (by show ¬ (i < 0 ∨ (arrV _ _ _).slots.size ≤ _); rw [arrV_size]; exact hin) rfl rfl hdg fun H1 e z oq => ?_
  refine kk H1 _ ?_ z oq (hS.put z oq hAa)
  show H1[a]? = some (vp_cell _ _)
  rw [e]
  rw [vp_cell_i, vp_cell_i, arrV_store]
  congr 2
  funext q
  by_cases hq : q = i.toNatClampNeg
  · subst hq
    simp [updV, upd]
  · simp [updV, upd, hq]
end PX
theorem swf_at (g : Nat → Int32) (x y : Int32) (i : Nat) : swf g x y i i = g i := by
  unfold swf
  rw [if_neg (Nat.lt_irrefl i)]
theorem swf_put (g : Nat → Int32) (x y v : Int32) (i : Nat) (h : v = swv x y (g i)) : upd (swf g x y i) i v = swf g x y (i + 1) := by
  funext j
  by_cases hj : j = i
  · subst hj
    rw [pk_us, h]
    unfold swf
    rw [if_pos (Nat.lt_succ_self j)]
  · rw [pk_un hj]
    unfold swf
    by_cases hl : j < i
    · rw [if_pos hl, if_pos (by omega)]
    · rw [if_neg hl, if_neg (by omega)]
theorem swf_same (g : Nat → Int32) (x y : Int32) (i : Nat) (h : swv x y (g i) = g i) : swf g x y i = swf g x y (i + 1) := by
  funext j
  unfold swf
  by_cases hj : j = i
  · subst hj
    rw [if_neg (Nat.lt_irrefl j), if_pos (Nat.lt_succ_self j), h]
  · by_cases hl : j < i
    · rw [if_pos hl, if_pos (by omega)]
    · rw [if_neg hl, if_neg (by omega)]
theorem swf_0 (g : Nat → Int32) (x y : Int32) : swf g x y 0 = g := by
  funext j
  unfold swf
  rw [if_neg (by omega)]
set_option maxHeartbeats 4000000 in
set_option maxRecDepth 100000 in
theorem c_X0_canBeClass (l : Launch) (D : va_G) (cI cZ cT : ClassId) (a f : Nat) (fb : Bool) (n : Nat) (g : Nat → Int32) (H0 : Heap) : Met l yX0_canBeClass wsX0_canBeClass ({ frames := 0, cells := 0, slots := 0, locals := 0 }) (pK D cI cZ cT [.ref a] (fun H => H = H0 ∧ tg D cI a f fb n g H0)) (vp_Si (fun r => r = b2i (decide (2 ≤ n)))) 0 0 (fun _ => False) := by
  refine Met.ofW (cc := cX0_canBeClass) (maxL := 1) (ret := (some .boolean)) (by decide) rfl ?_
  intro p e s m args below meth c s₁ B hml hv
  obtain ⟨rfl, hpic, hKN⟩ := hv
  have hK := hKN.1
  have hx := B.exec
  have hb := B.bytes
  have hr := B.returns
  have hts := atoms_spec (ws := wsX0_canBeClass) B.pre
  have hown : s.vm.findClass RX0 = some m.cls := findClass_of_methodNamed B.named
  have hlocks := B.notSynchronized
  obtain ⟨hH, hp⟩ := hpic
  subst hH
  have hn := hp.2.2
  have hl := lv_entry ([.ref a]) (n := 1) (Nat.le_of_ble_eq_true rfl)
  rw [lg_entry_eq]
  generalize (lg_sl ([.ref a]) ++ List.replicate (1 - (lg_sl ([.ref a])).length) Slot.unset).toArray = ls at hl ⊢
  have hl : lv_has ls 1 [(0, .ref a)] := hl
  refine lv_aload_n hx hb dX0_canBeClass_0 rfl (lv_at hl 0 rfl) ?_
  refine va_get (D := D) (ci := 0) (v := .ref f) (C := RX0) (T := TX0) (N := 2) hx hb hts (iw_X0_canBeClass_X0) hown hK (one hp.1) 0 rfl rfl 0 (by decide) (hts (.fieldLink RX0 9 "MethodBook$Thing" "fields" "[I") (by decide +kernel)) (fun _ h9 => h9) rfl dX0_canBeClass_1 ?_
  refine va_alen (v := (nI n)) hx hb hK (one hp.2.1) 0 0 rfl rfl rfl dX0_canBeClass_4 ?_
  refine lv_iconst (v := 2) hx hb dX0_canBeClass_5 (by decide) ?_
  refine lv_icmp_lt (tgt := 13) hx hb dX0_canBeClass_6 (by decide) (fun c6 => ?_) (fun c6 => ?_)
  · simp only [i_lt, i_le, i_0, i_1, i_2, i_4, i_40, i_100, i_400, i_401] at c6
    refine lv_iconst (v := 0) hx hb dX0_canBeClass_13 (by decide) ?_
    refine W.zret (v := 0) (ty := .boolean) hx hb hr rfl (fun t ht hW => ⟨_, rfl, ?_, ht⟩) (fun _ h => absurd h List.not_mem_nil) dX0_canBeClass_14
    rw [nI_toInt (by omega)] at c6
    exact b2i_no (by omega)
  · simp only [i_lt, i_le, i_0, i_1, i_2, i_4, i_40, i_100, i_400, i_401] at c6
    refine lv_iconst (v := 1) hx hb dX0_canBeClass_9 (by decide) ?_
    refine lv_goto (tgt := 14) hx hb dX0_canBeClass_10 (by decide) ?_
    refine W.zret (v := 1) (ty := .boolean) hx hb hr rfl (fun t ht hW => ⟨_, rfl, ?_, ht⟩) (fun _ h => absurd h List.not_mem_nil) dX0_canBeClass_14
    rw [nI_toInt (by omega)] at c6
    exact b2i_yes (by omega)
set_option maxHeartbeats 4000000 in
set_option maxRecDepth 100000 in
theorem c_X0_hasField (l : Launch) (D : va_G) (cI cZ cT : ClassId) (a f : Nat) (fb : Bool) (n : Nat) (g : Nat → Int32) (H0 : Heap) (i : Int32) : Met l yX0_hasField wsX0_hasField ({ frames := 0, cells := 0, slots := 0, locals := 0 }) (pK D cI cZ cT [.ref a, .int i] (fun H => H = H0 ∧ tg D cI a f fb n g H0)) (vp_Si (fun r => r = b2i (decide (0 ≤ i.toInt ∧ i.toInt < (n : Int))))) 0 0 (fun _ => False) := by
  refine Met.ofW (cc := cX0_hasField) (maxL := 2) (ret := (some .boolean)) (by decide) rfl ?_
  intro p e s m args below meth c s₁ B hml hv
  obtain ⟨rfl, hpic, hKN⟩ := hv
  have hK := hKN.1
  have hx := B.exec
  have hb := B.bytes
  have hr := B.returns
  have hts := atoms_spec (ws := wsX0_hasField) B.pre
  have hown : s.vm.findClass RX0 = some m.cls := findClass_of_methodNamed B.named
  have hlocks := B.notSynchronized
  obtain ⟨hH, hp⟩ := hpic
  subst hH
  have hn := hp.2.2
  have hl := lv_entry ([.ref a, .int i]) (n := 2) (Nat.le_of_ble_eq_true rfl)
  rw [lg_entry_eq]
  generalize (lg_sl ([.ref a, .int i]) ++ List.replicate (2 - (lg_sl ([.ref a, .int i])).length) Slot.unset).toArray = ls at hl ⊢
  have hl : lv_has ls 2 [(0, .ref a), (1, .int i)] := hl
  refine lv_iload_n hx hb dX0_hasField_0 rfl (lv_at hl 1 rfl) ?_
  refine lv_if_lt (tgt := 17) hx hb dX0_hasField_1 (by decide) (fun c1 => ?_) (fun c1 => ?_)
  · simp only [i_lt, i_le, i_0, i_1, i_2, i_4, i_40, i_100, i_400, i_401] at c1
    refine lv_iconst (v := 0) hx hb dX0_hasField_17 (by decide) ?_
    refine W.zret (v := 0) (ty := .boolean) hx hb hr rfl (fun t ht hW => ⟨_, rfl, ?_, ht⟩) (fun _ h => absurd h List.not_mem_nil) dX0_hasField_18
    exact b2i_no (by omega)
  · simp only [i_lt, i_le, i_0, i_1, i_2, i_4, i_40, i_100, i_400, i_401] at c1
    refine lv_iload_n hx hb dX0_hasField_4 rfl (lv_at hl 1 rfl) ?_
    refine lv_aload_n hx hb dX0_hasField_5 rfl (lv_at hl 0 rfl) ?_
    refine va_get (D := D) (ci := 0) (v := .ref f) (C := RX0) (T := TX0) (N := 2) hx hb hts (iw_X0_hasField_X0) hown hK (one hp.1) 0 rfl rfl 0 (by decide) (hts (.fieldLink RX0 9 "MethodBook$Thing" "fields" "[I") (by decide +kernel)) (fun _ h9 => h9) rfl dX0_hasField_6 ?_
    refine va_alen (v := (nI n)) hx hb hK (one hp.2.1) 0 0 rfl rfl rfl dX0_hasField_9 ?_
    refine lv_icmp_ge (tgt := 17) hx hb dX0_hasField_10 (by decide) (fun c10 => ?_) (fun c10 => ?_)
    · simp only [i_lt, i_le, i_0, i_1, i_2, i_4, i_40, i_100, i_400, i_401] at c10
      refine lv_iconst (v := 0) hx hb dX0_hasField_17 (by decide) ?_
      refine W.zret (v := 0) (ty := .boolean) hx hb hr rfl (fun t ht hW => ⟨_, rfl, ?_, ht⟩) (fun _ h => absurd h List.not_mem_nil) dX0_hasField_18
      rw [nI_toInt (by omega)] at c10
      exact b2i_no (by omega)
    · simp only [i_lt, i_le, i_0, i_1, i_2, i_4, i_40, i_100, i_400, i_401] at c10
      refine lv_iconst (v := 1) hx hb dX0_hasField_13 (by decide) ?_
      refine lv_goto (tgt := 18) hx hb dX0_hasField_14 (by decide) ?_
      refine W.zret (v := 1) (ty := .boolean) hx hb hr rfl (fun t ht hW => ⟨_, rfl, ?_, ht⟩) (fun _ h => absurd h List.not_mem_nil) dX0_hasField_18
      rw [nI_toInt (by omega)] at c10
      exact b2i_yes (by omega)
set_option maxHeartbeats 4000000 in
set_option maxRecDepth 100000 in
theorem c_X0_field (l : Launch) (D : va_G) (cI cZ cT : ClassId) (a f : Nat) (fb : Bool) (n : Nat) (g : Nat → Int32) (H0 : Heap) (i : Int32) : Met l yX0_field wsX0_field ({ frames := 1, cells := 0, slots := 0, locals := 21 }) (pK D cI cZ cT [.ref a, .int i] (fun H => H = H0 ∧ tg D cI a f fb n g H0)) (vp_Si (fun r => r = fl1 n g i)) 0 0 (fun _ => False) := by
  refine Met.ofW (cc := cX0_field) (maxL := 2) (ret := (some .int)) (by decide) rfl ?_
  intro p e s m args below meth c s₁ B hml hv
  obtain ⟨rfl, hpic, hKN⟩ := hv
  have hK := hKN.1
  have hx := B.exec
  have hb := B.bytes
  have hr := B.returns
  have hts := atoms_spec (ws := wsX0_field) B.pre
  have hown : s.vm.findClass RX0 = some m.cls := findClass_of_methodNamed B.named
  have hlocks := B.notSynchronized
  obtain ⟨hH, hp⟩ := hpic
  subst hH
  have hn := hp.2.2
  have hl := lv_entry ([.ref a, .int i]) (n := 2) (Nat.le_of_ble_eq_true rfl)
  rw [lg_entry_eq]
  generalize (lg_sl ([.ref a, .int i]) ++ List.replicate (2 - (lg_sl ([.ref a, .int i])).length) Slot.unset).toArray = ls at hl ⊢
  have hl : lv_has ls 2 [(0, .ref a), (1, .int i)] := hl
  refine lv_aload_n hx hb dX0_field_0 rfl (lv_at hl 0 rfl) ?_
  refine lv_iload_n hx hb dX0_field_1 rfl (lv_at hl 1 rfl) ?_
  refine pq_b (va_runV (As := [.int i]) (rest := []) ⟨hx, hb, hml, hown, hts⟩ (c_X0_hasField l D cI cZ cT a f fb n g _ i) (cwV 1 hts gX0_field_X0_hasField rfl rfl rfl (by decide +kernel) ⟨Nat.le_of_ble_eq_true rfl, Nat.le_of_ble_eq_true rfl⟩) (pre_v ⟨rfl, hp⟩ hKN (recv hKN hp.1 rfl)) rfl rfl hl.1 rfl (lv_room (Nat.le_of_ble_eq_true rfl)) dX0_field_2 ⟨Nat.zero_le _, Nat.zero_le _⟩) (fun b2 => ?_) (fun b2 => ?_)
  · refine lv_if_eq (tgt := 17) hx hb dX0_field_5 (by decide) (fun _ => ?_) (fun c9 => absurd (by decide) c9)
    refine lv_iconst (v := 0) hx hb dX0_field_17 (by decide) ?_
    refine W.iret (v := 0) hx hb hr (fun t ht hW => ⟨_, rfl, ?_, ht⟩) (fun _ h => absurd h List.not_mem_nil) dX0_field_18
    unfold fl1
    rw [if_neg (of_decide_eq_false b2)]
  · refine lv_if_eq (tgt := 17) hx hb dX0_field_5 (by decide) (fun c9 => absurd c9 (by decide)) (fun _ => ?_)
    refine lv_aload_n hx hb dX0_field_8 rfl (lv_at hl 0 rfl) ?_
    refine va_get (D := D) (ci := 0) (v := .ref f) (C := RX0) (T := TX0) (N := 2) hx hb hts (iw_X0_field_X0) hown hK (one hp.1) 0 rfl rfl 0 (by decide) (hts (.fieldLink RX0 9 "MethodBook$Thing" "fields" "[I") (by decide +kernel)) (fun _ h9 => h9) rfl dX0_field_9 ?_
    refine lv_iload_n hx hb dX0_field_12 rfl (lv_at hl 1 rfl) ?_
    refine va_iald hx hb hK (one hp.2.1) 0 0 rfl rfl (vp_in_iff.mpr (of_decide_eq_true b2)) dX0_field_13 ?_
    refine lv_goto (tgt := 18) hx hb dX0_field_14 (by decide) ?_
    refine W.iret (v := (g i.toNatClampNeg)) hx hb hr (fun t ht hW => ⟨_, rfl, ?_, ht⟩) (fun _ h => absurd h List.not_mem_nil) dX0_field_18
    unfold fl1
    rw [if_pos (of_decide_eq_true b2)]
set_option maxHeartbeats 4000000 in
set_option maxRecDepth 100000 in
theorem c_X0_placeOfMethod (l : Launch) (D : va_G) (cI cZ cT : ClassId) (a f : Nat) (fb : Bool) (n : Nat) (g : Nat → Int32) (H0 : Heap) (sel : Int32) : Met l yX0_placeOfMethod wsX0_placeOfMethod ({ frames := 0, cells := 0, slots := 0, locals := 0 }) (pK D cI cZ cT [.ref a, .int sel] (fun H => H = H0 ∧ tg D cI a f fb n g H0)) (vp_Si (fun r => r = pmr (pm g n sel))) 0 0 (fun _ => False) := by
  refine Met.ofW (cc := cX0_placeOfMethod) (maxL := 3) (ret := (some .int)) (by decide) rfl ?_
  intro p e s m args below meth c s₁ B hml hv
  obtain ⟨rfl, hpic, hKN⟩ := hv
  have hK := hKN.1
  have hx := B.exec
  have hb := B.bytes
  have hr := B.returns
  have hts := atoms_spec (ws := wsX0_placeOfMethod) B.pre
  have hown : s.vm.findClass RX0 = some m.cls := findClass_of_methodNamed B.named
  have hlocks := B.notSynchronized
  obtain ⟨hH, hp⟩ := hpic
  subst hH
  have hn := hp.2.2
  have hl := lv_entry ([.ref a, .int sel]) (n := 3) (Nat.le_of_ble_eq_true rfl)
  rw [lg_entry_eq]
  generalize (lg_sl ([.ref a, .int sel]) ++ List.replicate (3 - (lg_sl ([.ref a, .int sel])).length) Slot.unset).toArray = ls at hl ⊢
  have hl : lv_has ls 3 [(0, .ref a), (1, .int sel)] := hl
  refine lv_iconst (v := 0) hx hb dX0_placeOfMethod_0 (by decide) ?_
  refine lv_istore_n (lv' := [(2, .int 0), (0, .ref a), (1, .int sel)]) hx hb dX0_placeOfMethod_1 rfl hl (by decide) rfl (fun ls hl => ?_)
  have loop : ∀ (q i : Nat), n ≤ i + 2 * q → i ≤ 42 → pm g n sel = pmF g n sel q i → ∀ ls : Array Slot, lv_has ls 3 [(0, .ref a), (1, .int sel), (2, .int (nI i))] → W p l e (headSpec wsX0_placeOfMethod ({ frames := 0, cells := 0, slots := 0, locals := 0 })).room s m ([.ref a, .int sel] : List Value).toArray below meth c s.heap [] 0 0 (MQ below (vp_Si (fun r => r = pmr (pm g n sel))) ([.ref a, .int sel] : List Value).toArray s 0 0 (fun _ => False)) (F0 m 2 ls []) := by
    intro q
    induction q with
    | zero =>
      intro i h1 h2 hq ls hl
      refine lv_iload_n hx hb dX0_placeOfMethod_2 rfl (lv_at hl 2 rfl) ?_
      refine lv_iconst (v := 1) hx hb dX0_placeOfMethod_3 (by decide) ?_
      refine lv_iadd hx hb dX0_placeOfMethod_4 ?_
      refine lv_aload_n hx hb dX0_placeOfMethod_5 rfl (lv_at hl 0 rfl) ?_
      refine va_get (D := D) (ci := 0) (v := .ref f) (C := RX0) (T := TX0) (N := 2) hx hb hts (iw_X0_placeOfMethod_X0) hown hK (one hp.1) 0 rfl rfl 0 (by decide) (hts (.fieldLink RX0 9 "MethodBook$Thing" "fields" "[I") (by decide +kernel)) (fun _ h9 => h9) rfl dX0_placeOfMethod_6 ?_
      refine va_alen (v := (nI n)) hx hb hK (one hp.2.1) 0 0 rfl rfl rfl dX0_placeOfMethod_9 ?_
      refine lv_icmp_ge (tgt := 33) hx hb dX0_placeOfMethod_10 (by decide) (fun _ => ?_) (fun c9 => absurd (by rw [← nI_succ]; exact nI_le (by omega) (by omega)) c9)
      refine lv_iconst (v := (-1)) hx hb dX0_placeOfMethod_33 (by decide) ?_
      refine W.iret (v := (-1)) hx hb hr (fun t ht hW => ⟨_, rfl, ?_, ht⟩) (fun _ h => absurd h List.not_mem_nil) dX0_placeOfMethod_34
      rw [hq]
      rfl
    | succ q ih =>
      intro i h1 h2 hq ls hl
      refine lv_iload_n hx hb dX0_placeOfMethod_2 rfl (lv_at hl 2 rfl) ?_
      refine lv_iconst (v := 1) hx hb dX0_placeOfMethod_3 (by decide) ?_
      refine lv_iadd hx hb dX0_placeOfMethod_4 ?_
      refine lv_aload_n hx hb dX0_placeOfMethod_5 rfl (lv_at hl 0 rfl) ?_
      refine va_get (D := D) (ci := 0) (v := .ref f) (C := RX0) (T := TX0) (N := 2) hx hb hts (iw_X0_placeOfMethod_X0) hown hK (one hp.1) 0 rfl rfl 0 (by decide) (hts (.fieldLink RX0 9 "MethodBook$Thing" "fields" "[I") (by decide +kernel)) (fun _ h9 => h9) rfl dX0_placeOfMethod_6 ?_
      refine va_alen (v := (nI n)) hx hb hK (one hp.2.1) 0 0 rfl rfl rfl dX0_placeOfMethod_9 ?_
      refine lv_icmp_ge (tgt := 33) hx hb dX0_placeOfMethod_10 (by decide) (fun c10 => ?_) (fun c10 => ?_)
      · simp only [i_lt, i_le, i_0, i_1, i_2, i_4, i_40, i_100, i_400, i_401] at c10
        rw [← nI_succ, nI_toInt (by omega), nI_toInt (by omega)] at c10
        refine lv_iconst (v := (-1)) hx hb dX0_placeOfMethod_33 (by decide) ?_
        refine W.iret (v := (-1)) hx hb hr (fun t ht hW => ⟨_, rfl, ?_, ht⟩) (fun _ h => absurd h List.not_mem_nil) dX0_placeOfMethod_34
        rw [hq, pmF, if_neg (by omega)]
        rfl
      · simp only [i_lt, i_le, i_0, i_1, i_2, i_4, i_40, i_100, i_400, i_401] at c10
        rw [← nI_succ, nI_toInt (by omega), nI_toInt (by omega)] at c10
        refine lv_aload_n hx hb dX0_placeOfMethod_13 rfl (lv_at hl 0 rfl) ?_
        refine va_get (D := D) (ci := 0) (v := .ref f) (C := RX0) (T := TX0) (N := 2) hx hb hts (iw_X0_placeOfMethod_X0) hown hK (one hp.1) 0 rfl rfl 0 (by decide) (hts (.fieldLink RX0 9 "MethodBook$Thing" "fields" "[I") (by decide +kernel)) (fun _ h9 => h9) rfl dX0_placeOfMethod_14 ?_
        refine lv_iload_n hx hb dX0_placeOfMethod_17 rfl (lv_at hl 2 rfl) ?_
        refine va_iald hx hb hK (one hp.2.1) 0 0 rfl rfl (vp_in_nI (by omega) (by omega)) dX0_placeOfMethod_18 ?_
        rw [nI_clamp (by omega)]
        refine lv_iload_n hx hb dX0_placeOfMethod_19 rfl (lv_at hl 1 rfl) ?_
        refine lv_icmp_ne (tgt := 27) hx hb dX0_placeOfMethod_20 (by decide) (fun c20 => ?_) (fun c20 => ?_)
        · refine lv_iinc (v := ((nI i) + 2)) (lv' := [(2, .int ((nI i) + 2)), (0, .ref a), (1, .int sel)]) hx hb dX0_placeOfMethod_27 hl (k := 2) rfl rfl (by decide) rfl (fun ls hl => ?_)
          refine lv_goto (tgt := 2) hx hb dX0_placeOfMethod_30 (by decide) ?_
          rw [nI_s2] at hl
          exact ih (i + 2) (by omega) (by omega) (by rw [hq, pmF, if_pos (by omega), if_neg c20]) _ (lv_sub hl [1, 2, 0] rfl)
        · refine lv_iload_n hx hb dX0_placeOfMethod_23 rfl (lv_at hl 2 rfl) ?_
          refine lv_iconst (v := 1) hx hb dX0_placeOfMethod_24 (by decide) ?_
          refine lv_iadd hx hb dX0_placeOfMethod_25 ?_
          refine W.iret (v := ((nI i) + 1)) hx hb hr (fun t ht hW => ⟨_, rfl, ?_, ht⟩) (fun _ h => absurd h List.not_mem_nil) dX0_placeOfMethod_26
          rw [hq, pmF, if_pos (by omega), if_pos c20]
          exact (nI_succ i).symm
  exact loop 21 0 (by omega) (by omega) rfl _ (lv_sub hl [1, 2, 0] rfl)
set_option maxHeartbeats 4000000 in
set_option maxRecDepth 100000 in
theorem c_X0_setField (l : Launch) (D : va_G) (cI cZ cT : ClassId) (a f : Nat) (fb : Bool) (n : Nat) (g : Nat → Int32) (H0 : Heap) (i v : Int32) : Met l yX0_setField wsX0_setField ({ frames := 1, cells := 0, slots := 0, locals := 21 }) (pK D cI cZ cT [.ref a, .int i, .int v] (fun H => H = H0 ∧ tg D cI a f fb n g H0)) (pm_Qi (fun r H1 => r = b2i (decide (0 ≤ i.toInt ∧ i.toInt < (n : Int))) ∧ va_at D vwCl (f, .inl (cI, n, .inl (if 0 ≤ i.toInt ∧ i.toInt < (n : Int) then upd g i.toNatClampNeg v else g))) H1) (fun q : Nat => q = f)) 0 0 (fun q : Nat => q = f) := by
  refine Met.ofW (cc := cX0_setField) (maxL := 3) (ret := (some .boolean)) (by decide) rfl ?_
  intro p e s m args below meth c s₁ B hml hv
  obtain ⟨rfl, hpic, hKN⟩ := hv
  have hK := hKN.1
  have hx := B.exec
  have hb := B.bytes
  have hr := B.returns
  have hts := atoms_spec (ws := wsX0_setField) B.pre
  have hown : s.vm.findClass RX0 = some m.cls := findClass_of_methodNamed B.named
  have hlocks := B.notSynchronized
  obtain ⟨hH, hp⟩ := hpic
  subst hH
  have hn := hp.2.2
  have hS : va_S (fun q : Nat => q = f) s.heap s.heap [] := va_S.rf
  have hl := lv_entry ([.ref a, .int i, .int v]) (n := 3) (Nat.le_of_ble_eq_true rfl)
  rw [lg_entry_eq]
  generalize (lg_sl ([.ref a, .int i, .int v]) ++ List.replicate (3 - (lg_sl ([.ref a, .int i, .int v])).length) Slot.unset).toArray = ls at hl ⊢
  have hl : lv_has ls 3 [(0, .ref a), (1, .int i), (2, .int v)] := hl
  refine lv_aload_n hx hb dX0_setField_0 rfl (lv_at hl 0 rfl) ?_
  refine lv_iload_n hx hb dX0_setField_1 rfl (lv_at hl 1 rfl) ?_
  refine pq_b (va_runV (As := [.int i]) (rest := []) ⟨hx, hb, hml, hown, hts⟩ (c_X0_hasField l D cI cZ cT a f fb n g _ i) (cwV 1 hts gX0_setField_X0_hasField rfl rfl rfl (by decide +kernel) ⟨Nat.le_of_ble_eq_true rfl, Nat.le_of_ble_eq_true rfl⟩) (pre_v ⟨rfl, hp⟩ hKN (recv hKN hp.1 rfl)) rfl rfl hl.1 rfl (lv_room (Nat.le_of_ble_eq_true rfl)) dX0_setField_2 ⟨Nat.zero_le _, Nat.zero_le _⟩) (fun b2 => ?_) (fun b2 => ?_)
  · refine lv_if_ne (tgt := 10) hx hb dX0_setField_5 (by decide) (fun c9 => absurd rfl c9) (fun _ => ?_)
    refine lv_iconst (v := 0) hx hb dX0_setField_8 (by decide) ?_
    refine W.zret (v := 0) (ty := .boolean) hx hb hr rfl (fun t ht hW => ⟨⟨_, rfl, ?_⟩, hS.F ht⟩) hS.2.2 dX0_setField_9
    rw [ht]
    rw [if_neg (of_decide_eq_false b2), b2]
    exact ⟨rfl, hp.2.1⟩
  · refine lv_if_ne (tgt := 10) hx hb dX0_setField_5 (by decide) (fun _ => ?_) (fun c9 => absurd c9 (by decide))
    refine lv_aload_n hx hb dX0_setField_10 rfl (lv_at hl 0 rfl) ?_
    refine va_get (D := D) (ci := 0) (v := .ref f) (C := RX0) (T := TX0) (N := 2) hx hb hts (iw_X0_setField_X0) hown hK (one hp.1) 0 rfl rfl 0 (by decide) (hts (.fieldLink RX0 9 "MethodBook$Thing" "fields" "[I") (by decide +kernel)) (fun _ h9 => h9) rfl dX0_setField_11 ?_
    refine lv_iload_n hx hb dX0_setField_14 rfl (lv_at hl 1 rfl) ?_
    refine lv_iload_n hx hb dX0_setField_15 rfl (lv_at hl 2 rfl) ?_
    refine pw_iast hx hb hK hS rfl 0 hp.2.1 rfl (vp_in_iff.mpr (of_decide_eq_true b2)) dX0_setField_16 (fun H locs hf hz ho hS => ?_)
    refine lv_iconst (v := 1) hx hb dX0_setField_17 (by decide) ?_
    refine W.zret (v := 1) (ty := .boolean) hx hb hr rfl (fun t ht hW => ⟨⟨_, rfl, ?_⟩, hS.F ht⟩) hS.2.2 dX0_setField_18
    rw [ht]
    rw [if_pos (of_decide_eq_true b2), b2]
    exact ⟨rfl, hf⟩
set_option maxHeartbeats 4000000 in
set_option maxRecDepth 100000 in
theorem c_X0_exchange (l : Launch) (D : va_G) (cI cZ cT : ClassId) (a f : Nat) (fb : Bool) (n : Nat) (g : Nat → Int32) (H0 : Heap) (x y : Int32) (hne : a ≠ f) : Met l yX0_exchange wsX0_exchange ({ frames := 0, cells := 0, slots := 0, locals := 0 }) (pK D cI cZ cT [.ref a, .int x, .int y] (fun H => H = H0 ∧ tg D cI a f fb n g H0)) (pm_Qi (fun r H1 => r = xcn g x y n ∧ va_at D vwCl (f, .inl (cI, n, .inl (swf g x y n))) H1) (fun q : Nat => q = f)) 0 0 (fun q : Nat => q = f) := by
  refine Met.ofW (cc := cX0_exchange) (maxL := 5) (ret := (some .int)) (by decide) rfl ?_
  intro p e s m args below meth c s₁ B hml hv
  obtain ⟨rfl, hpic, hKN⟩ := hv
  have hK := hKN.1
  have hx := B.exec
  have hb := B.bytes
  have hr := B.returns
  have hts := atoms_spec (ws := wsX0_exchange) B.pre
  have hown : s.vm.findClass RX0 = some m.cls := findClass_of_methodNamed B.named
  have hlocks := B.notSynchronized
  obtain ⟨hH, hp⟩ := hpic
  subst hH
  have hn := hp.2.2
  have hS : va_S (fun q : Nat => q = f) s.heap s.heap [] := va_S.rf
  have hl := lv_entry ([.ref a, .int x, .int y]) (n := 5) (Nat.le_of_ble_eq_true rfl)
  rw [lg_entry_eq]
  generalize (lg_sl ([.ref a, .int x, .int y]) ++ List.replicate (5 - (lg_sl ([.ref a, .int x, .int y])).length) Slot.unset).toArray = ls at hl ⊢
  have hl : lv_has ls 5 [(0, .ref a), (1, .int x), (2, .int y)] := hl
  refine lv_iconst (v := 0) hx hb dX0_exchange_0 (by decide) ?_
  refine lv_istore_n (lv' := [(3, .int 0), (0, .ref a), (1, .int x), (2, .int y)]) hx hb dX0_exchange_1 rfl hl (by decide) rfl (fun ls hl => ?_)
  refine lv_iconst (v := 0) hx hb dX0_exchange_2 (by decide) ?_
  refine lv_istore (lv' := [(4, .int 0), (3, .int 0), (0, .ref a), (1, .int x), (2, .int y)]) hx hb dX0_exchange_3 hl (by decide) rfl (fun ls hl => ?_)
  have loop : ∀ (q i : Nat), i + q = n → ∀ (H : Heap) (locs : List Loc), va_at D vwCl (a, .inr (0, [.ref f, .int (b2i fb)])) H → va_at D vwCl (f, .inl (cI, n, .inl (swf g x y i))) H → va_S (fun q : Nat => q = f) s.heap H locs → ∀ ls : Array Slot, lv_has ls 5 [(0, .ref a), (1, .int x), (2, .int y), (3, .int (xcn g x y i)), (4, .int (nI i))] → W p l e (headSpec wsX0_exchange ({ frames := 0, cells := 0, slots := 0, locals := 0 })).room s m ([.ref a, .int x, .int y] : List Value).toArray below meth c H locs 0 0 (MQ below (pm_Qi (fun r H1 => r = xcn g x y n ∧ va_at D vwCl (f, .inl (cI, n, .inl (swf g x y n))) H1) (fun q : Nat => q = f)) ([.ref a, .int x, .int y] : List Value).toArray s 0 0 (fun q : Nat => q = f)) (F0 m 5 ls []) := by
    intro q
    induction q with
    | zero =>
      intro i h1 H locs ha hf hS ls hl
      refine lv_iload hx hb dX0_exchange_5 (lv_at hl 4 rfl) ?_
      refine lv_aload_n hx hb dX0_exchange_7 rfl (lv_at hl 0 rfl) ?_
      refine va_get (D := D) (ci := 0) (v := .ref f) (C := RX0) (T := TX0) (N := 2) hx hb hts (iw_X0_exchange_X0) hown hK (one ha) 0 rfl rfl 0 (by decide) (hts (.fieldLink RX0 9 "MethodBook$Thing" "fields" "[I") (by decide +kernel)) (fun _ h9 => h9) rfl dX0_exchange_8 ?_
      refine va_alen (v := (nI n)) hx hb hK (one hf) 0 0 rfl rfl rfl dX0_exchange_11 ?_
      refine lv_icmp_ge (tgt := 68) hx hb dX0_exchange_12 (by decide) (fun _ => ?_) (fun c9 => absurd (nI_le (by omega) (by omega)) c9)
      refine lv_iload_n hx hb dX0_exchange_68 rfl (lv_at hl 3 rfl) ?_
      refine W.iret (v := (xcn g x y i)) hx hb hr (fun t ht hW => ⟨⟨_, rfl, ?_⟩, hS.F ht⟩) hS.2.2 dX0_exchange_69
      rw [ht]
      have e1 : i = n := by omega
      subst e1
      exact ⟨rfl, hf⟩
    | succ q ih =>
      intro i h1 H locs ha hf hS ls hl
      refine lv_iload hx hb dX0_exchange_5 (lv_at hl 4 rfl) ?_
      refine lv_aload_n hx hb dX0_exchange_7 rfl (lv_at hl 0 rfl) ?_
      refine va_get (D := D) (ci := 0) (v := .ref f) (C := RX0) (T := TX0) (N := 2) hx hb hts (iw_X0_exchange_X0) hown hK (one ha) 0 rfl rfl 0 (by decide) (hts (.fieldLink RX0 9 "MethodBook$Thing" "fields" "[I") (by decide +kernel)) (fun _ h9 => h9) rfl dX0_exchange_8 ?_
      refine va_alen (v := (nI n)) hx hb hK (one hf) 0 0 rfl rfl rfl dX0_exchange_11 ?_
      refine lv_icmp_ge (tgt := 68) hx hb dX0_exchange_12 (by decide) (fun c9 => absurd c9 (nI_ge (by omega) (by omega))) (fun _ => ?_)
      refine lv_aload_n hx hb dX0_exchange_15 rfl (lv_at hl 0 rfl) ?_
      refine va_get (D := D) (ci := 0) (v := .ref f) (C := RX0) (T := TX0) (N := 2) hx hb hts (iw_X0_exchange_X0) hown hK (one ha) 0 rfl rfl 0 (by decide) (hts (.fieldLink RX0 9 "MethodBook$Thing" "fields" "[I") (by decide +kernel)) (fun _ h9 => h9) rfl dX0_exchange_16 ?_
      refine lv_iload hx hb dX0_exchange_19 (lv_at hl 4 rfl) ?_
      refine va_iald hx hb hK (one hf) 0 0 rfl rfl (vp_in_nI (by omega) (by omega)) dX0_exchange_21 ?_
      rw [nI_clamp (by omega), swf_at]
      refine lv_iload_n hx hb dX0_exchange_22 rfl (lv_at hl 1 rfl) ?_
      refine lv_icmp_ne (tgt := 40) hx hb dX0_exchange_23 (by decide) (fun c23 => ?_) (fun c23 => ?_)
      · refine lv_aload_n hx hb dX0_exchange_40 rfl (lv_at hl 0 rfl) ?_
        refine va_get (D := D) (ci := 0) (v := .ref f) (C := RX0) (T := TX0) (N := 2) hx hb hts (iw_X0_exchange_X0) hown hK (one ha) 0 rfl rfl 0 (by decide) (hts (.fieldLink RX0 9 "MethodBook$Thing" "fields" "[I") (by decide +kernel)) (fun _ h9 => h9) rfl dX0_exchange_41 ?_
        refine lv_iload hx hb dX0_exchange_44 (lv_at hl 4 rfl) ?_
        refine va_iald hx hb hK (one hf) 0 0 rfl rfl (vp_in_nI (by omega) (by omega)) dX0_exchange_46 ?_
        rw [nI_clamp (by omega), swf_at]
        refine lv_iload_n hx hb dX0_exchange_47 rfl (lv_at hl 2 rfl) ?_
        refine lv_icmp_ne (tgt := 62) hx hb dX0_exchange_48 (by decide) (fun c48 => ?_) (fun c48 => ?_)
        · have ec : xcn g x y i = xcn g x y (i + 1) := by
            show _ = xcn g x y i + b2i (hit x y (g i))
            rw [show hit x y (g i) = false from by unfold hit; rw [decide_eq_false c23, decide_eq_false c48]; rfl]
            exact (Int32.add_zero _).symm
          rw [ec] at hl
          rw [swf_same g x y i (by unfold swv; rw [if_neg c23, if_neg c48])] at hf
          refine lv_iinc (v := ((nI i) + 1)) (lv' := [(4, .int ((nI i) + 1)), (0, .ref a), (1, .int x), (2, .int y), (3, .int (xcn g x y (i + 1)))]) hx hb dX0_exchange_62 hl (k := 4) rfl rfl (by decide) rfl (fun ls hl => ?_)
          refine lv_goto (tgt := 5) hx hb dX0_exchange_65 (by decide) ?_
          rw [← nI_succ] at hl
          exact ih (i + 1) (by omega) _ _ ha hf hS _ (lv_sub hl [1, 2, 3, 4, 0] rfl)
        · refine lv_aload_n hx hb dX0_exchange_51 rfl (lv_at hl 0 rfl) ?_
          refine va_get (D := D) (ci := 0) (v := .ref f) (C := RX0) (T := TX0) (N := 2) hx hb hts (iw_X0_exchange_X0) hown hK (one ha) 0 rfl rfl 0 (by decide) (hts (.fieldLink RX0 9 "MethodBook$Thing" "fields" "[I") (by decide +kernel)) (fun _ h9 => h9) rfl dX0_exchange_52 ?_
          refine lv_iload hx hb dX0_exchange_55 (lv_at hl 4 rfl) ?_
          refine lv_iload_n hx hb dX0_exchange_57 rfl (lv_at hl 1 rfl) ?_
          refine pw_iast hx hb hK hS rfl 0 hf rfl (vp_in_nI (by omega) (by omega)) dX0_exchange_58 (fun H locs hf hz ho hS => ?_)
          replace ha := ha.kept (ho a hne)
          rw [nI_clamp (by omega), swf_put g x y _ i (by unfold swv; rw [if_neg c23, if_pos c48])] at hf
          refine lv_iinc (v := ((xcn g x y i) + 1)) (lv' := [(3, .int ((xcn g x y i) + 1)), (0, .ref a), (1, .int x), (2, .int y), (4, .int (nI i))]) hx hb dX0_exchange_59 hl (k := 3) rfl rfl (by decide) rfl (fun ls hl => ?_)
          have ec : xcn g x y i + 1 = xcn g x y (i + 1) := by
            show _ = xcn g x y i + b2i (hit x y (g i))
            rw [show hit x y (g i) = true from by unfold hit; rw [decide_eq_true c48, Bool.or_true]]
            rfl
          rw [ec] at hl
          refine lv_iinc (v := ((nI i) + 1)) (lv' := [(4, .int ((nI i) + 1)), (3, .int (xcn g x y (i + 1))), (0, .ref a), (1, .int x), (2, .int y)]) hx hb dX0_exchange_62 hl (k := 4) rfl rfl (by decide) rfl (fun ls hl => ?_)
          refine lv_goto (tgt := 5) hx hb dX0_exchange_65 (by decide) ?_
          rw [← nI_succ] at hl
          exact ih (i + 1) (by omega) _ _ ha hf hS _ (lv_sub hl [2, 3, 4, 1, 0] rfl)
      · refine lv_aload_n hx hb dX0_exchange_26 rfl (lv_at hl 0 rfl) ?_
        refine va_get (D := D) (ci := 0) (v := .ref f) (C := RX0) (T := TX0) (N := 2) hx hb hts (iw_X0_exchange_X0) hown hK (one ha) 0 rfl rfl 0 (by decide) (hts (.fieldLink RX0 9 "MethodBook$Thing" "fields" "[I") (by decide +kernel)) (fun _ h9 => h9) rfl dX0_exchange_27 ?_
        refine lv_iload hx hb dX0_exchange_30 (lv_at hl 4 rfl) ?_
        refine lv_iload_n hx hb dX0_exchange_32 rfl (lv_at hl 2 rfl) ?_
        refine pw_iast hx hb hK hS rfl 0 hf rfl (vp_in_nI (by omega) (by omega)) dX0_exchange_33 (fun H locs hf hz ho hS => ?_)
        replace ha := ha.kept (ho a hne)
        rw [nI_clamp (by omega), swf_put g x y _ i (by unfold swv; rw [if_pos c23])] at hf
        refine lv_iinc (v := ((xcn g x y i) + 1)) (lv' := [(3, .int ((xcn g x y i) + 1)), (0, .ref a), (1, .int x), (2, .int y), (4, .int (nI i))]) hx hb dX0_exchange_34 hl (k := 3) rfl rfl (by decide) rfl (fun ls hl => ?_)
        refine lv_goto (tgt := 62) hx hb dX0_exchange_37 (by decide) ?_
        have ec : xcn g x y i + 1 = xcn g x y (i + 1) := by
          show _ = xcn g x y i + b2i (hit x y (g i))
          rw [show hit x y (g i) = true from by unfold hit; rw [decide_eq_true c23]; rfl]
          rfl
        rw [ec] at hl
        refine lv_iinc (v := ((nI i) + 1)) (lv' := [(4, .int ((nI i) + 1)), (3, .int (xcn g x y (i + 1))), (0, .ref a), (1, .int x), (2, .int y)]) hx hb dX0_exchange_62 hl (k := 4) rfl rfl (by decide) rfl (fun ls hl => ?_)
        refine lv_goto (tgt := 5) hx hb dX0_exchange_65 (by decide) ?_
        rw [← nI_succ] at hl
        exact ih (i + 1) (by omega) _ _ ha hf hS _ (lv_sub hl [2, 3, 4, 1, 0] rfl)
  exact loop n 0 (by omega) _ _ hp.1 (by rw [swf_0]; exact hp.2.1) hS _ (lv_sub hl [2, 3, 4, 1, 0] rfl)
end
section
set_option maxHeartbeats 4000000 in
set_option maxRecDepth 100000 in
theorem c_X0_init (l : Launch) (D : va_G) (cI cZ cT : ClassId) (a : Nat) (n : Int32) (b : Bool) (H0 : Heap) (hn0 : 0 ≤ n.toInt) (hn1 : n.toInt ≤ 40) : Met l yX0_init wsX0_init ({ frames := 1, cells := 1, slots := 40, locals := 12 }) (pK D cI cZ cT [.ref a, .int n, .int (b2i b)] (fun H => H = H0 ∧ va_at D vwCl (a, .inr (0, [.null, .int 0])) H0)) (pm_Qv (fun t => ∃ f : Nat, tg D cI a f b n.toNatClampNeg (fun _ => 0) t.heap ∧ H0.size ≤ f) (fun q : Nat => q = a ∨ H0.size ≤ q)) 1 40 (fun q : Nat => q = a ∨ H0.size ≤ q) := by
  refine Met.ofW (cc := cX0_init) (maxL := 3) (ret := none) (by decide) rfl ?_
  intro p e s m args below meth c s₁ B hml hv
  obtain ⟨rfl, hpic, hKN⟩ := hv
  have hK := hKN.1
  have hx := B.exec
  have hb := B.bytes
  have hr := B.returns
  have hts := atoms_spec (ws := wsX0_init) B.pre
  have hown : s.vm.findClass RX0 = some m.cls := findClass_of_methodNamed B.named
  have hlocks := B.notSynchronized
  have hin : meth.name = "<init>" := (name_of_methodNamed B.named B.method).1
  obtain ⟨hH, hp0⟩ := hpic
  subst hH
  have hA : ∀ q : Nat, s.heap.size ≤ q → (fun q : Nat => q = a ∨ s.heap.size ≤ q) q := fun q h => Or.inr h
  have hS : va_S (fun q : Nat => q = a ∨ s.heap.size ≤ q) s.heap s.heap [] := va_S.rf
  have hP : va_P D vwCl [(a, .inr (0, [.null, .int 0]))] s.heap := one hp0
  have hD : va_D (fun q : Nat => q = a ∨ s.heap.size ≤ q) [(a, .inr (0, [.null, .int 0]))] := by
    refine ⟨fun i j x y hi hj _ => ?_, fun k q hk => ?_⟩
    · have h1 : i < 1 := (List.getElem?_eq_some_iff.mp hi).1
      have h2 : j < 1 := (List.getElem?_eq_some_iff.mp hj).1
      omega
    · have h1 : k < 1 := (List.getElem?_eq_some_iff.mp hk).1
      rw [show k = 0 by omega] at hk
      cases hk
      exact Or.inl rfl
  have hl := lv_entry ([.ref a, .int n, .int (b2i b)]) (n := 3) (Nat.le_of_ble_eq_true rfl)
  rw [lg_entry_eq]
  generalize (lg_sl ([.ref a, .int n, .int (b2i b)]) ++ List.replicate (3 - (lg_sl ([.ref a, .int n, .int (b2i b)])).length) Slot.unset).toArray = ls at hl ⊢
  have hl : lv_has ls 3 [(0, .ref a), (1, .int n), (2, .int (b2i b))] := hl
  refine lv_aload_n hx hb dX0_init_0 rfl (lv_at hl 0 rfl) ?_
  refine W.objInit hx hb hown (hts (.methodLink RX0 3 objectInit) (by decide +kernel)) (hts (.instanceMethod objectInit) (by decide +kernel)) (hts (.code objectInit ⟨#[0xb1]⟩ 1 none) (by decide +kernel)) rfl (by rw [hml]; exact hl.1) rfl dX0_init_1 (Nat.le_of_ble_eq_true rfl) (Nat.le_of_ble_eq_true rfl) ?_
  refine W.eq (g2 := F0 m 4 ls []) rfl ?_
  refine lv_aload_n hx hb dX0_init_4 rfl (lv_at hl 0 rfl) ?_
  refine lv_iload_n hx hb dX0_init_5 rfl (lv_at hl 1 rfl) ?_
  refine va_newa (atype := .int) (a0 := (n.toNatClampNeg, .inl (fun _ => 0))) hx hb (hts (.arrayClass .int) (by decide +kernel)) rfl hK hP hD hS hA (fun cA => rfl) (by rw [i_lt, i_0]; omega) rfl (by show _ * 4 ≤ _; rw [i_cl]; omega) (Nat.le_refl 1) (by show 0 + _ ≤ 40; rw [i_cl]; omega) dX0_init_6 (fun q cA H hK1 hP hD hS => ?_)
  have e1 : cA = cI := by
    have h1 := (hK.2 0 _ rfl).2
    have h2 := (hK1.2 3 _ rfl).2
    exact Option.some.inj (h2.symm.trans h1)
  subst e1
  have hP : va_P D vwCl [(a, .inr (0, [.null, .int 0])), (q, .inl (cA, n.toNatClampNeg, .inl (fun _ => 0)))] H := hP
  have hD : va_D (fun q : Nat => q = a ∨ s.heap.size ≤ q) [(a, .inr (0, [.null, .int 0])), (q, .inl (cA, n.toNatClampNeg, .inl (fun _ => 0)))] := hD
  refine va_putF (D := D) (ci := 0) (v := .ref q) (ty := .array .int) (C := RX0) (T := TX0) (N := 2) hx hb hts iw_X0_init_X0 tyX0 tyX0_ok nmX0 hown hK hP hD hS 0 rfl rfl 0 (by decide) (hts (.fieldLink RX0 9 "MethodBook$Thing" "fields" "[I") (by decide +kernel)) (fun _ h9 => h9) rfl hin rfl (by decide +kernel) rfl rfl (Nat.le_of_ble_eq_true rfl) dX0_init_8 (fun H locs hP hD hS => ?_)
  have hP : va_P D vwCl [(a, .inr (0, [.ref q, .int 0])), (q, .inl (cA, n.toNatClampNeg, .inl (fun _ => 0)))] H := hP
  have hD : va_D (fun q : Nat => q = a ∨ s.heap.size ≤ q) [(a, .inr (0, [.ref q, .int 0])), (q, .inl (cA, n.toNatClampNeg, .inl (fun _ => 0)))] := hD
  refine lv_aload_n hx hb dX0_init_11 rfl (lv_at hl 0 rfl) ?_
  refine lv_iload_n hx hb dX0_init_12 rfl (lv_at hl 2 rfl) ?_
  refine va_putF (D := D) (ci := 0) (v := .int (b2i b)) (ty := .boolean) (C := RX0) (T := TX0) (N := 2) hx hb hts iw_X0_init_X0 tyX0 tyX0_ok nmX0 hown hK hP hD hS 0 rfl rfl 1 (by decide) (hts (.fieldLink RX0 15 "MethodBook$Thing" "ofFields" "Z") (by decide +kernel)) (fun _ h9 => h9) rfl hin rfl (by decide +kernel) (by cases b <;> rfl) (by cases b <;> rfl) (Nat.le_of_ble_eq_true rfl) dX0_init_13 (fun H locs hP hD hS => ?_)
  have hP : va_P D vwCl [(a, .inr (0, [.ref q, .int (b2i b)])), (q, .inl (cA, n.toNatClampNeg, .inl (fun _ => 0)))] H := hP
  have hq : s.heap.size ≤ q := by
    rcases hD.2 1 _ rfl with h | h
    · exact absurd (hD.1 0 1 _ _ rfl rfl h.symm) (by decide)
    · exact h
  refine W.widen (k := 1) (n := 40) (Nat.le_refl 1) (by show 0 + _ ≤ 40; rw [i_cl]; omega) ?_
  exact W.vret hx hb hr (fun t ht hW => ⟨⟨rfl, q, by rw [ht]; exact ⟨hP 0 _ rfl, hP 1 _ rfl, by rw [i_cl]; omega⟩, hq⟩, hS.F ht⟩) hS.2.2 dX0_init_16
end
section
theorem iw_X1_thingOf_X1 : ∀ w ∈ wsX10, w ∈ wsX1_thingOf := by decide +kernel
theorem iw_X1_thingMeantBy_X1 : ∀ w ∈ wsX10, w ∈ wsX1_thingMeantBy := by decide +kernel
theorem iw_X1_isValue_X1 : ∀ w ∈ wsX10, w ∈ wsX1_isValue := by decide +kernel
theorem iw_X1_classMeantBy_X1 : ∀ w ∈ wsX10, w ∈ wsX1_classMeantBy := by decide +kernel
theorem iw_X1_classMeantBy_X0 : ∀ w ∈ wsX00, w ∈ wsX1_classMeantBy := by decide +kernel
theorem iw_X1_hasBadDictionary_X1 : ∀ w ∈ wsX10, w ∈ wsX1_hasBadDictionary := by decide +kernel
theorem iw_X1_hasBadDictionary_X0 : ∀ w ∈ wsX00, w ∈ wsX1_hasBadDictionary := by decide +kernel
section PR
variable {p : Program} {l : Launch} {e : Env} {R : Room} {s : State} {m : MethodId} {args : Array Value} {below : List Frame} {meth : Method} {c : Code} {H : Heap} {locs : List Loc} {cells slots : Nat} {Q : State → Prop}
variable {pc : Nat} {ls : Array Slot} {rest st0 : List Value} {a : Array Value}
theorem pq_r {post : Option Nat → Prop} (hr : va_Run p l e R s m args below meth c H locs cells slots 0 0 (F0 m pc ls st0) rest (va_Sq post a) (fun _ => False)) (kk : ∀ r : Option Nat, post r → W p l e R s m args below meth c H locs cells slots Q (F0 m (pc + 3) ls (va_rf r :: rest))) : W p l e R s m args below meth c H locs cells slots Q (F0 m pc ls st0) := by
  intro T hT X
  obtain ⟨v, st₀, t, T', L, h0, X', hL, e1, e2, ⟨r, hv, hp, hh⟩, st⟩ := hr T hT X
  cases hv
  obtain ⟨t2, a1, b1⟩ := kk r hp T' (by rw [e1, hh, h0]) (Stand.forget X' (fun q h => (hL q h).elim))
  exact ⟨t2, st t2 a1, b1⟩
end PR
theorem tv_even {O : Ob} {v : Int32} (h : v.toInt % 2 = 0) : tv O v = tz O (v.toInt / 2) := by
  unfold tv
  rw [if_pos h]
theorem tv_odd {O : Ob} {v : Int32} (h : ¬ v.toInt % 2 = 0) : tv O v = none := by
  unfold tv
  rw [if_neg h]
theorem tv_is_even {O : Ob} {v : Int32} {j : Nat} (h : tv O v = some j) : v.toInt % 2 = 0 := by
  by_cases hv : v.toInt % 2 = 0
  · exact hv
  · rw [tv_odd hv] at h
    cases h
theorem cls_tv {O : Ob} {v : Int32} {j : Nat} (h : cls O v = some j) : tv O v = some j ∧ 2 ≤ O.2.2.1 j := by
  unfold cls at h
  split at h
  · cases h
  · rename_i k hk
    split at h
    · rename_i h2
      cases h
      exact ⟨hk, h2⟩
    · cases h
theorem fl1_lt {n : Nat} {g : Nat → Int32} {i : Nat} (h : i < n) (hn : n ≤ 40) : fl1 n g (nI i) = g i := by
  unfold fl1
  rw [nI_toInt (by omega), if_pos (by omega), nI_clamp (by omega)]
theorem b2i_z {b : Bool} (h : b2i b = 0) : b = false := by
  cases b
  · rfl
  · exact absurd h (by decide)
theorem b2i_n {b : Bool} (h : ¬ b2i b = 0) : b = true := by
  cases b
  · exact absurd rfl h
  · rfl
set_option maxHeartbeats 4000000 in
set_option maxRecDepth 100000 in
theorem c_X1_isNumber (l : Launch) (D : va_G) (cI cZ cT : ClassId) (v : Int32) : Met l yX1_isNumber wsX1_isNumber ({ frames := 0, cells := 0, slots := 0, locals := 0 }) (pK D cI cZ cT [.int v] (fun H => True)) (vp_Si (fun r => r = b2i (decide (v.toInt % 2 = 1)))) 0 0 (fun _ => False) := by
  refine Met.ofW (cc := cX1_isNumber) (maxL := 1) (ret := (some .boolean)) (by decide) rfl ?_
  intro p e s m args below meth c s₁ B hml hv
  obtain ⟨rfl, hpic, hKN⟩ := hv
  have hK := hKN.1
  have hx := B.exec
  have hb := B.bytes
  have hr := B.returns
  have hts := atoms_spec (ws := wsX1_isNumber) B.pre
  have hown : s.vm.findClass RX1 = some m.cls := findClass_of_methodNamed B.named
  have hlocks := B.notSynchronized
  have hl := lv_entry ([.int v]) (n := 1) (Nat.le_of_ble_eq_true rfl)
  rw [lg_entry_eq]
  generalize (lg_sl ([.int v]) ++ List.replicate (1 - (lg_sl ([.int v])).length) Slot.unset).toArray = ls at hl ⊢
  have hl : lv_has ls 1 [(0, .int v)] := hl
  refine lv_iload_n hx hb dX1_isNumber_0 rfl (lv_at hl 0 rfl) ?_
  refine lv_iconst (v := 1) hx hb dX1_isNumber_1 (by decide) ?_
  refine lv_iand hx hb dX1_isNumber_2 ?_
  refine lv_iconst (v := 1) hx hb dX1_isNumber_3 (by decide) ?_
  refine lv_icmp_ne (tgt := 11) hx hb dX1_isNumber_4 (by decide) (fun c4 => ?_) (fun c4 => ?_)
  · refine lv_iconst (v := 0) hx hb dX1_isNumber_11 (by decide) ?_
    refine W.zret (v := 0) (ty := .boolean) hx hb hr rfl (fun t ht hW => ⟨_, rfl, ?_, ht⟩) (fun _ h => absurd h List.not_mem_nil) dX1_isNumber_12
    exact b2i_no (fun q => c4 ((i_and v).mpr q))
  · refine lv_iconst (v := 1) hx hb dX1_isNumber_7 (by decide) ?_
    refine lv_goto (tgt := 12) hx hb dX1_isNumber_8 (by decide) ?_
    refine W.zret (v := 1) (ty := .boolean) hx hb hr rfl (fun t ht hW => ⟨_, rfl, ?_, ht⟩) (fun _ h => absurd h List.not_mem_nil) dX1_isNumber_12
    exact b2i_yes ((i_and v).mp c4)
set_option maxHeartbeats 4000000 in
set_option maxRecDepth 100000 in
theorem c_X1_objectNumber (l : Launch) (D : va_G) (cI cZ cT : ClassId) (v : Int32) : Met l yX1_objectNumber wsX1_objectNumber ({ frames := 0, cells := 0, slots := 0, locals := 0 }) (pK D cI cZ cT [.int v] (fun H => True)) (vp_Si (fun r => r.toInt = v.toInt / 2)) 0 0 (fun _ => False) := by
  refine Met.ofW (cc := cX1_objectNumber) (maxL := 1) (ret := (some .int)) (by decide) rfl ?_
  intro p e s m args below meth c s₁ B hml hv
  obtain ⟨rfl, hpic, hKN⟩ := hv
  have hK := hKN.1
  have hx := B.exec
  have hb := B.bytes
  have hr := B.returns
  have hts := atoms_spec (ws := wsX1_objectNumber) B.pre
  have hown : s.vm.findClass RX1 = some m.cls := findClass_of_methodNamed B.named
  have hlocks := B.notSynchronized
  have hl := lv_entry ([.int v]) (n := 1) (Nat.le_of_ble_eq_true rfl)
  rw [lg_entry_eq]
  generalize (lg_sl ([.int v]) ++ List.replicate (1 - (lg_sl ([.int v])).length) Slot.unset).toArray = ls at hl ⊢
  have hl : lv_has ls 1 [(0, .int v)] := hl
  refine lv_iload_n hx hb dX1_objectNumber_0 rfl (lv_at hl 0 rfl) ?_
  refine lv_iconst (v := 1) hx hb dX1_objectNumber_1 (by decide) ?_
  refine lv_ishr hx hb dX1_objectNumber_2 ?_
  refine W.iret (v := (v >>> (1 &&& 31))) hx hb hr (fun t ht hW => ⟨_, rfl, ?_, ht⟩) (fun _ h => absurd h List.not_mem_nil) dX1_objectNumber_3
  exact i_shr v
set_option maxHeartbeats 4000000 in
set_option maxRecDepth 100000 in
theorem c_X1_objectValue (l : Launch) (D : va_G) (cI cZ cT : ClassId) (v : Int32) (h1 : 0 ≤ v.toInt) (h2 : v.toInt ≤ 1000) : Met l yX1_objectValue wsX1_objectValue ({ frames := 0, cells := 0, slots := 0, locals := 0 }) (pK D cI cZ cT [.int v] (fun H => True)) (vp_Si (fun r => r = 2 * v)) 0 0 (fun _ => False) := by
  refine Met.ofW (cc := cX1_objectValue) (maxL := 1) (ret := (some .int)) (by decide) rfl ?_
  intro p e s m args below meth c s₁ B hml hv
  obtain ⟨rfl, hpic, hKN⟩ := hv
  have hK := hKN.1
  have hx := B.exec
  have hb := B.bytes
  have hr := B.returns
  have hts := atoms_spec (ws := wsX1_objectValue) B.pre
  have hown : s.vm.findClass RX1 = some m.cls := findClass_of_methodNamed B.named
  have hlocks := B.notSynchronized
  have hl := lv_entry ([.int v]) (n := 1) (Nat.le_of_ble_eq_true rfl)
  rw [lg_entry_eq]
  generalize (lg_sl ([.int v]) ++ List.replicate (1 - (lg_sl ([.int v])).length) Slot.unset).toArray = ls at hl ⊢
  have hl : lv_has ls 1 [(0, .int v)] := hl
  refine lv_iload_n hx hb dX1_objectValue_0 rfl (lv_at hl 0 rfl) ?_
  refine lv_iconst (v := 1) hx hb dX1_objectValue_1 (by decide) ?_
  refine lv_ishl hx hb dX1_objectValue_2 ?_
  refine W.iret (v := (v <<< (1 &&& 31))) hx hb hr (fun t ht hW => ⟨_, rfl, ?_, ht⟩) (fun _ h => absurd h List.not_mem_nil) dX1_objectValue_3
  exact i_shl v h1 h2
set_option maxHeartbeats 4000000 in
set_option maxRecDepth 100000 in
theorem c_X1_thingOf (l : Launch) (D : va_G) (cI cZ cT : ClassId) (ρ : Nat → Nat) (h tq : Nat) (th : Nat → Option Nat) (O : Ob) (mt wh : Int32) (H0 : Heap) (k : Int32) : Met l yX1_thingOf wsX1_thingOf ({ frames := 0, cells := 0, slots := 0, locals := 0 }) (pK D cI cZ cT [.ref h, .int k] (fun H => H = H0 ∧ px D cI cT ρ h tq th O mt wh H0)) (va_Sq (fun r => tp D cI ρ th O (tk O k) H0 r)) 0 0 (fun _ => False) := by
  refine Met.ofW (cc := cX1_thingOf) (maxL := 2) (ret := (some (.object "MethodBook$Thing"))) (by decide) rfl ?_
  intro p e s m args below meth c s₁ B hml hv
  obtain ⟨rfl, hpic, hKN⟩ := hv
  have hK := hKN.1
  have hx := B.exec
  have hb := B.bytes
  have hr := B.returns
  have hts := atoms_spec (ws := wsX1_thingOf) B.pre
  have hown : s.vm.findClass RX1 = some m.cls := findClass_of_methodNamed B.named
  have hlocks := B.notSynchronized
  obtain ⟨hH, hp⟩ := hpic
  subst hH
  have hl := lv_entry ([.ref h, .int k]) (n := 2) (Nat.le_of_ble_eq_true rfl)
  rw [lg_entry_eq]
  generalize (lg_sl ([.ref h, .int k]) ++ List.replicate (2 - (lg_sl ([.ref h, .int k])).length) Slot.unset).toArray = ls at hl ⊢
  have hl : lv_has ls 2 [(0, .ref h), (1, .int k)] := hl
  refine lv_iload_n hx hb dX1_thingOf_0 rfl (lv_at hl 1 rfl) ?_
  refine lv_iconst (v := 1) hx hb dX1_thingOf_1 (by decide) ?_
  refine lv_icmp_lt (tgt := 12) hx hb dX1_thingOf_2 (by decide) (fun c2 => ?_) (fun c2 => ?_)
  · simp only [i_lt, i_le, i_0, i_1, i_2, i_4, i_40, i_100, i_400, i_401] at c2
    refine lv_null hx hb dX1_thingOf_12 ?_
    refine lv_goto (tgt := 22) hx hb dX1_thingOf_13 (by decide) ?_
    refine W.aret (v := .null) (rt := .object "MethodBook$Thing") hx hb hr (Or.inl ⟨_, rfl⟩) (Or.inl rfl) (fun t ht hW => ⟨none, rfl, ?_, ht⟩) (fun _ h => absurd h List.not_mem_nil) dX1_thingOf_22
    exact Or.inl ⟨tz_out (by omega), rfl⟩
  · simp only [i_lt, i_le, i_0, i_1, i_2, i_4, i_40, i_100, i_400, i_401] at c2
    refine lv_iload_n hx hb dX1_thingOf_5 rfl (lv_at hl 1 rfl) ?_
    refine lv_sipush (v := 400) hx hb dX1_thingOf_6 (by decide) ?_
    refine lv_icmp_le (tgt := 16) hx hb dX1_thingOf_9 (by decide) (fun c9 => ?_) (fun c9 => ?_)
    · simp only [i_lt, i_le, i_0, i_1, i_2, i_4, i_40, i_100, i_400, i_401] at c9
      refine lv_aload_n hx hb dX1_thingOf_16 rfl (lv_at hl 0 rfl) ?_
      refine va_get (D := D) (ci := 1) (v := .ref tq) (C := RX1) (T := TX1) (N := 3) hx hb hts (iw_X1_thingOf_X1) hown hK (one hp.1) 0 rfl rfl 0 (by decide) (hts (.fieldLink RX1 11 "MethodBook" "things" "[LMethodBook$Thing;") (by decide +kernel)) (fun _ h9 => h9) rfl dX1_thingOf_17 ?_
      refine lv_iload_n hx hb dX1_thingOf_20 rfl (lv_at hl 1 rfl) ?_
      refine va_aldq hx hb hK (one hp.2.1) 0 2 rfl rfl (vp_in_iff.mpr ⟨by omega, by omega⟩) dX1_thingOf_21 ?_
      refine W.aret (v := va_rf (th k.toNatClampNeg)) (rt := .object "MethodBook$Thing") hx hb hr (Or.inl ⟨_, rfl⟩) (va_rf_or _) (fun t ht hW => ⟨(th k.toNatClampNeg), rfl, ?_, ht⟩) (fun _ h => absurd h List.not_mem_nil) dX1_thingOf_22
      exact px_tz hp (by omega) (by omega)
    · simp only [i_lt, i_le, i_0, i_1, i_2, i_4, i_40, i_100, i_400, i_401] at c9
      refine lv_null hx hb dX1_thingOf_12 ?_
      refine lv_goto (tgt := 22) hx hb dX1_thingOf_13 (by decide) ?_
      refine W.aret (v := .null) (rt := .object "MethodBook$Thing") hx hb hr (Or.inl ⟨_, rfl⟩) (Or.inl rfl) (fun t ht hW => ⟨none, rfl, ?_, ht⟩) (fun _ h => absurd h List.not_mem_nil) dX1_thingOf_22
      exact Or.inl ⟨tz_out (by omega), rfl⟩
set_option maxHeartbeats 4000000 in
set_option maxRecDepth 100000 in
theorem c_X1_thingMeantBy (l : Launch) (D : va_G) (cI cZ cT : ClassId) (ρ : Nat → Nat) (h tq : Nat) (th : Nat → Option Nat) (O : Ob) (mt wh : Int32) (H0 : Heap) (v : Int32) : Met l yX1_thingMeantBy wsX1_thingMeantBy ({ frames := 1, cells := 0, slots := 0, locals := 21 }) (pK D cI cZ cT [.ref h, .int v] (fun H => H = H0 ∧ px D cI cT ρ h tq th O mt wh H0)) (va_Sq (fun r => tp D cI ρ th O (tv O v) H0 r)) 0 0 (fun _ => False) := by
  refine Met.ofW (cc := cX1_thingMeantBy) (maxL := 2) (ret := (some (.object "MethodBook$Thing"))) (by decide) rfl ?_
  intro p e s m args below meth c s₁ B hml hv
  obtain ⟨rfl, hpic, hKN⟩ := hv
  have hK := hKN.1
  have hx := B.exec
  have hb := B.bytes
  have hr := B.returns
  have hts := atoms_spec (ws := wsX1_thingMeantBy) B.pre
  have hown : s.vm.findClass RX1 = some m.cls := findClass_of_methodNamed B.named
  have hlocks := B.notSynchronized
  obtain ⟨hH, hp⟩ := hpic
  subst hH
  have hl := lv_entry ([.ref h, .int v]) (n := 2) (Nat.le_of_ble_eq_true rfl)
  rw [lg_entry_eq]
  generalize (lg_sl ([.ref h, .int v]) ++ List.replicate (2 - (lg_sl ([.ref h, .int v])).length) Slot.unset).toArray = ls at hl ⊢
  have hl : lv_has ls 2 [(0, .ref h), (1, .int v)] := hl
  refine lv_iload_n hx hb dX1_thingMeantBy_0 rfl (lv_at hl 1 rfl) ?_
  refine pq_b (va_runS (As := [.int v]) (rest := []) ⟨hx, hb, hml, hown, hts⟩ (c_X1_isNumber l D cI cZ cT v) (va_cwS 1 hts gX1_thingMeantBy_X1_isNumber rfl rfl rfl (by decide +kernel) ⟨Nat.le_of_ble_eq_true rfl, Nat.le_of_ble_eq_true rfl⟩) (pre_s trivial hKN) rfl rfl hl.1 rfl (lv_room (Nat.le_of_ble_eq_true rfl)) dX1_thingMeantBy_1 ⟨Nat.zero_le _, Nat.zero_le _⟩) (fun b1 => ?_) (fun b1 => ?_)
  · refine lv_if_eq (tgt := 11) hx hb dX1_thingMeantBy_4 (by decide) (fun _ => ?_) (fun c9 => absurd (by decide) c9)
    refine lv_aload_n hx hb dX1_thingMeantBy_11 rfl (lv_at hl 0 rfl) ?_
    refine lv_iload_n hx hb dX1_thingMeantBy_12 rfl (lv_at hl 1 rfl) ?_
    refine pq_i (va_runS (As := [.int v]) (rest := [.ref h]) ⟨hx, hb, hml, hown, hts⟩ (c_X1_objectNumber l D cI cZ cT v) (va_cwS 1 hts gX1_thingMeantBy_X1_objectNumber rfl rfl rfl (by decide +kernel) ⟨Nat.le_of_ble_eq_true rfl, Nat.le_of_ble_eq_true rfl⟩) (pre_s trivial hKN) rfl rfl hl.1 rfl (lv_room (Nat.le_of_ble_eq_true rfl)) dX1_thingMeantBy_13 ⟨Nat.zero_le _, Nat.zero_le _⟩) (fun r13 hr13 => ?_)
    refine pq_r (va_runV (As := [.int r13]) (rest := []) ⟨hx, hb, hml, hown, hts⟩ (c_X1_thingOf l D cI cZ cT ρ h tq th O mt wh _ r13) (cwV 1 hts gX1_thingMeantBy_X1_thingOf rfl rfl rfl (by decide +kernel) ⟨Nat.le_of_ble_eq_true rfl, Nat.le_of_ble_eq_true rfl⟩) (pre_v ⟨rfl, hp⟩ hKN (recv hKN hp.1 rfl)) rfl rfl hl.1 rfl (lv_room (Nat.le_of_ble_eq_true rfl)) dX1_thingMeantBy_16 ⟨Nat.zero_le _, Nat.zero_le _⟩) (fun r16 h16 => ?_)
    refine W.aret (v := va_rf r16) (rt := .object "MethodBook$Thing") hx hb hr (Or.inl ⟨_, rfl⟩) (va_rf_or _) (fun t ht hW => ⟨r16, rfl, ?_, ht⟩) (fun _ h => absurd h List.not_mem_nil) dX1_thingMeantBy_19
    rw [tv_even (by have := of_decide_eq_false b1; omega), ← hr13]
    exact h16
  · refine lv_if_eq (tgt := 11) hx hb dX1_thingMeantBy_4 (by decide) (fun c9 => absurd c9 (by decide)) (fun _ => ?_)
    refine lv_null hx hb dX1_thingMeantBy_7 ?_
    refine lv_goto (tgt := 19) hx hb dX1_thingMeantBy_8 (by decide) ?_
    refine W.aret (v := .null) (rt := .object "MethodBook$Thing") hx hb hr (Or.inl ⟨_, rfl⟩) (Or.inl rfl) (fun t ht hW => ⟨none, rfl, ?_, ht⟩) (fun _ h => absurd h List.not_mem_nil) dX1_thingMeantBy_19
    exact Or.inl ⟨tv_odd (by have := of_decide_eq_true b1; omega), rfl⟩
set_option maxHeartbeats 4000000 in
set_option maxRecDepth 100000 in
theorem c_X1_classMeantBy (l : Launch) (D : va_G) (cI cZ cT : ClassId) (ρ : Nat → Nat) (h tq : Nat) (th : Nat → Option Nat) (O : Ob) (mt wh : Int32) (H0 : Heap) (v : Int32) : Met l yX1_classMeantBy wsX1_classMeantBy ({ frames := 2, cells := 0, slots := 0, locals := 42 }) (pK D cI cZ cT [.ref h, .int v] (fun H => H = H0 ∧ px D cI cT ρ h tq th O mt wh H0)) (va_Sq (fun r => tp D cI ρ th O (cls O v) H0 r)) 0 0 (fun _ => False) := by
  refine Met.ofW (cc := cX1_classMeantBy) (maxL := 3) (ret := (some (.object "MethodBook$Thing"))) (by decide) rfl ?_
  intro p e s m args below meth c s₁ B hml hv
  obtain ⟨rfl, hpic, hKN⟩ := hv
  have hK := hKN.1
  have hx := B.exec
  have hb := B.bytes
  have hr := B.returns
  have hts := atoms_spec (ws := wsX1_classMeantBy) B.pre
  have hown : s.vm.findClass RX1 = some m.cls := findClass_of_methodNamed B.named
  have hlocks := B.notSynchronized
  obtain ⟨hH, hp⟩ := hpic
  subst hH
  have hl := lv_entry ([.ref h, .int v]) (n := 3) (Nat.le_of_ble_eq_true rfl)
  rw [lg_entry_eq]
  generalize (lg_sl ([.ref h, .int v]) ++ List.replicate (3 - (lg_sl ([.ref h, .int v])).length) Slot.unset).toArray = ls at hl ⊢
  have hl : lv_has ls 3 [(0, .ref h), (1, .int v)] := hl
  refine lv_aload_n hx hb dX1_classMeantBy_0 rfl (lv_at hl 0 rfl) ?_
  refine lv_iload_n hx hb dX1_classMeantBy_1 rfl (lv_at hl 1 rfl) ?_
  refine pq_q (va_runV (As := [.int v]) (rest := []) ⟨hx, hb, hml, hown, hts⟩ (c_X1_thingMeantBy l D cI cZ cT ρ h tq th O mt wh _ v) (cwV 1 hts gX1_classMeantBy_X1_thingMeantBy rfl rfl rfl (by decide +kernel) ⟨Nat.le_of_ble_eq_true rfl, Nat.le_of_ble_eq_true rfl⟩) (pre_v ⟨rfl, hp⟩ hKN (recv hKN hp.1 rfl)) rfl rfl hl.1 rfl (lv_room (Nat.le_of_ble_eq_true rfl)) dX1_classMeantBy_2 ⟨Nat.zero_le _, Nat.zero_le _⟩) (fun h2 => ?_) (fun a2 h2 => ?_)
  · have e2 := tp_none h2
    refine lv_astore_nN (lv' := [(2, .null), (0, .ref h), (1, .int v)]) hx hb dX1_classMeantBy_5 rfl hl (by decide) rfl (fun ls hl => ?_)
    refine lv_aload_nN hx hb dX1_classMeantBy_6 rfl (lv_at hl 0 rfl) ?_
    refine lv_ifnullN (tgt := 17) hx hb dX1_classMeantBy_7 (by decide) ?_
    refine lv_null hx hb dX1_classMeantBy_17 ?_
    refine lv_goto (tgt := 22) hx hb dX1_classMeantBy_18 (by decide) ?_
    refine W.aret (v := .null) (rt := .object "MethodBook$Thing") hx hb hr (Or.inl ⟨_, rfl⟩) (Or.inl rfl) (fun t ht hW => ⟨none, rfl, ?_, ht⟩) (fun _ h => absurd h List.not_mem_nil) dX1_classMeantBy_22
    refine Or.inl ⟨?_, rfl⟩
    unfold cls
    rw [e2]
  · obtain ⟨j2, f2, e2, x2, y2, z2, l2, u2, m2, t2⟩ := tp_some h2
    refine lv_astore_n (lv' := [(2, .ref a2), (0, .ref h), (1, .int v)]) hx hb dX1_classMeantBy_5 rfl hl (by decide) rfl (fun ls hl => ?_)
    refine lv_aload_n hx hb dX1_classMeantBy_6 rfl (lv_at hl 0 rfl) ?_
    refine lv_ifnull hx hb dX1_classMeantBy_7 ?_
    refine lv_aload_n hx hb dX1_classMeantBy_10 rfl (lv_at hl 0 rfl) ?_
    refine pq_b (va_runVN (As := []) (rest := []) ⟨hx, hb, hml, hown, hts⟩ (c_X0_canBeClass l D cI cZ cT a2 f2 (O.2.1 j2) (O.2.2.1 j2) (O.2.2.2 j2) _) ⟨va_cnB 0 hts gX1_classMeantBy_X0_canBeClass_n71 rfl rfl rfl hKN.2.2.2.2.2.2.1 (hts (.initialized RX0) (by decide +kernel)) (by decide +kernel) ⟨Nat.le_of_ble_eq_true rfl, Nat.le_of_ble_eq_true rfl⟩, hts (.instanceMethod yX0_canBeClass) (by decide +kernel), hts (.selects RX0 yX0_canBeClass yX0_canBeClass) (by decide +kernel)⟩ (pre_v ⟨rfl, t2⟩ hKN (recv hKN t2.1 rfl)) rfl rfl hl.1 rfl (lv_room (Nat.le_of_ble_eq_true rfl)) dX1_classMeantBy_11 ⟨Nat.zero_le _, Nat.zero_le _⟩) (fun b11 => ?_) (fun b11 => ?_)
    · refine lv_if_ne (tgt := 21) hx hb dX1_classMeantBy_14 (by decide) (fun c9 => absurd rfl c9) (fun _ => ?_)
      refine lv_null hx hb dX1_classMeantBy_17 ?_
      refine lv_goto (tgt := 22) hx hb dX1_classMeantBy_18 (by decide) ?_
      refine W.aret (v := .null) (rt := .object "MethodBook$Thing") hx hb hr (Or.inl ⟨_, rfl⟩) (Or.inl rfl) (fun t ht hW => ⟨none, rfl, ?_, ht⟩) (fun _ h => absurd h List.not_mem_nil) dX1_classMeantBy_22
      refine Or.inl ⟨?_, rfl⟩
      unfold cls
      rw [e2]
      show (if _ then _ else _) = _
      rw [if_neg (of_decide_eq_false b11)]
    · refine lv_if_ne (tgt := 21) hx hb dX1_classMeantBy_14 (by decide) (fun _ => ?_) (fun c9 => absurd c9 (by decide))
      refine lv_aload_n hx hb dX1_classMeantBy_21 rfl (lv_at hl 0 rfl) ?_
      refine W.aret (v := .ref a2) (rt := .object "MethodBook$Thing") hx hb hr (Or.inl ⟨_, rfl⟩) (Or.inr ⟨_, rfl⟩) (fun t ht hW => ⟨some a2, rfl, ?_, ht⟩) (fun _ h => absurd h List.not_mem_nil) dX1_classMeantBy_22
      refine Or.inr ⟨j2, a2, f2, ?_, rfl, x2, y2, z2, l2, u2, m2, t2⟩
      unfold cls
      rw [e2]
      show (if _ then _ else _) = _
      rw [if_pos (of_decide_eq_true b11)]
set_option maxHeartbeats 4000000 in
set_option maxRecDepth 100000 in
theorem c_X1_isValue (l : Launch) (D : va_G) (cI cZ cT : ClassId) (ρ : Nat → Nat) (h tq : Nat) (th : Nat → Option Nat) (O : Ob) (mt wh : Int32) (H0 : Heap) (v : Int32) : Met l yX1_isValue wsX1_isValue ({ frames := 2, cells := 0, slots := 0, locals := 42 }) (pK D cI cZ cT [.ref h, .int v] (fun H => H = H0 ∧ px D cI cT ρ h tq th O mt wh H0)) (vp_Si (fun r => r = b2i (isV O v))) 0 0 (fun _ => False) := by
  refine Met.ofW (cc := cX1_isValue) (maxL := 2) (ret := (some .boolean)) (by decide) rfl ?_
  intro p e s m args below meth c s₁ B hml hv
  obtain ⟨rfl, hpic, hKN⟩ := hv
  have hK := hKN.1
  have hx := B.exec
  have hb := B.bytes
  have hr := B.returns
  have hts := atoms_spec (ws := wsX1_isValue) B.pre
  have hown : s.vm.findClass RX1 = some m.cls := findClass_of_methodNamed B.named
  have hlocks := B.notSynchronized
  obtain ⟨hH, hp⟩ := hpic
  subst hH
  have hl := lv_entry ([.ref h, .int v]) (n := 2) (Nat.le_of_ble_eq_true rfl)
  rw [lg_entry_eq]
  generalize (lg_sl ([.ref h, .int v]) ++ List.replicate (2 - (lg_sl ([.ref h, .int v])).length) Slot.unset).toArray = ls at hl ⊢
  have hl : lv_has ls 2 [(0, .ref h), (1, .int v)] := hl
  refine lv_iload_n hx hb dX1_isValue_0 rfl (lv_at hl 1 rfl) ?_
  refine lv_if_eq (tgt := 19) hx hb dX1_isValue_1 (by decide) (fun c1 => ?_) (fun c1 => ?_)
  · refine lv_iconst (v := 1) hx hb dX1_isValue_19 (by decide) ?_
    refine lv_goto (tgt := 24) hx hb dX1_isValue_20 (by decide) ?_
    refine W.zret (v := 1) (ty := .boolean) hx hb hr rfl (fun t ht hW => ⟨_, rfl, ?_, ht⟩) (fun _ h => absurd h List.not_mem_nil) dX1_isValue_24
    unfold isV
    rw [decide_eq_true c1]
    rfl
  · refine lv_iload_n hx hb dX1_isValue_4 rfl (lv_at hl 1 rfl) ?_
    refine pq_b (va_runS (As := [.int v]) (rest := []) ⟨hx, hb, hml, hown, hts⟩ (c_X1_isNumber l D cI cZ cT v) (va_cwS 1 hts gX1_isValue_X1_isNumber rfl rfl rfl (by decide +kernel) ⟨Nat.le_of_ble_eq_true rfl, Nat.le_of_ble_eq_true rfl⟩) (pre_s trivial hKN) rfl rfl hl.1 rfl (lv_room (Nat.le_of_ble_eq_true rfl)) dX1_isValue_5 ⟨Nat.zero_le _, Nat.zero_le _⟩) (fun b5 => ?_) (fun b5 => ?_)
    · refine lv_if_ne (tgt := 19) hx hb dX1_isValue_8 (by decide) (fun c9 => absurd rfl c9) (fun _ => ?_)
      refine lv_aload_n hx hb dX1_isValue_11 rfl (lv_at hl 0 rfl) ?_
      refine lv_iload_n hx hb dX1_isValue_12 rfl (lv_at hl 1 rfl) ?_
      refine pq_q (va_runV (As := [.int v]) (rest := []) ⟨hx, hb, hml, hown, hts⟩ (c_X1_thingMeantBy l D cI cZ cT ρ h tq th O mt wh _ v) (cwV 1 hts gX1_isValue_X1_thingMeantBy rfl rfl rfl (by decide +kernel) ⟨Nat.le_of_ble_eq_true rfl, Nat.le_of_ble_eq_true rfl⟩) (pre_v ⟨rfl, hp⟩ hKN (recv hKN hp.1 rfl)) rfl rfl hl.1 rfl (lv_room (Nat.le_of_ble_eq_true rfl)) dX1_isValue_13 ⟨Nat.zero_le _, Nat.zero_le _⟩) (fun h13 => ?_) (fun a13 h13 => ?_)
      · have e13 := tp_none h13
        refine lv_ifnullN (tgt := 23) hx hb dX1_isValue_16 (by decide) ?_
        refine lv_iconst (v := 0) hx hb dX1_isValue_23 (by decide) ?_
        refine W.zret (v := 0) (ty := .boolean) hx hb hr rfl (fun t ht hW => ⟨_, rfl, ?_, ht⟩) (fun _ h => absurd h List.not_mem_nil) dX1_isValue_24
        unfold isV
        rw [decide_eq_false c1, b5, e13]
        rfl
      · obtain ⟨j13, f13, e13, x13, y13, z13, l13, u13, m13, t13⟩ := tp_some h13
        refine lv_ifnull hx hb dX1_isValue_16 ?_
        refine lv_iconst (v := 1) hx hb dX1_isValue_19 (by decide) ?_
        refine lv_goto (tgt := 24) hx hb dX1_isValue_20 (by decide) ?_
        refine W.zret (v := 1) (ty := .boolean) hx hb hr rfl (fun t ht hW => ⟨_, rfl, ?_, ht⟩) (fun _ h => absurd h List.not_mem_nil) dX1_isValue_24
        unfold isV
        rw [e13, Option.isSome_some, Bool.or_true]
        rfl
    · refine lv_if_ne (tgt := 19) hx hb dX1_isValue_8 (by decide) (fun _ => ?_) (fun c9 => absurd c9 (by decide))
      refine lv_iconst (v := 1) hx hb dX1_isValue_19 (by decide) ?_
      refine lv_goto (tgt := 24) hx hb dX1_isValue_20 (by decide) ?_
      refine W.zret (v := 1) (ty := .boolean) hx hb hr rfl (fun t ht hW => ⟨_, rfl, ?_, ht⟩) (fun _ h => absurd h List.not_mem_nil) dX1_isValue_24
      unfold isV
      rw [b5, Bool.or_true]
      rfl
set_option maxHeartbeats 4000000 in
set_option maxRecDepth 100000 in
theorem c_X1_hasBadDictionary (l : Launch) (D : va_G) (cI cZ cT : ClassId) (ρ : Nat → Nat) (h tq : Nat) (th : Nat → Option Nat) (O : Ob) (mt wh : Int32) (H0 : Heap) (j a f : Nat) (ht : tg D cI a f (O.2.1 j) (O.2.2.1 j) (O.2.2.2 j) H0) (h2 : 2 ≤ O.2.2.1 j) : Met l yX1_hasBadDictionary wsX1_hasBadDictionary ({ frames := 2, cells := 0, slots := 0, locals := 42 }) (pK D cI cZ cT [.ref h, .ref a] (fun H => H = H0 ∧ px D cI cT ρ h tq th O mt wh H0)) (vp_Si (fun r => r = b2i (bad O (O.2.2.2 j 1)))) 0 0 (fun _ => False) := by
  refine Met.ofW (cc := cX1_hasBadDictionary) (maxL := 4) (ret := (some .boolean)) (by decide) rfl ?_
  intro p e s m args below meth c s₁ B hml hv
  obtain ⟨rfl, hpic, hKN⟩ := hv
  have hK := hKN.1
  have hx := B.exec
  have hb := B.bytes
  have hr := B.returns
  have hts := atoms_spec (ws := wsX1_hasBadDictionary) B.pre
  have hown : s.vm.findClass RX1 = some m.cls := findClass_of_methodNamed B.named
  have hlocks := B.notSynchronized
  obtain ⟨hH, hp⟩ := hpic
  subst hH
  have hl := lv_entry ([.ref h, .ref a]) (n := 4) (Nat.le_of_ble_eq_true rfl)
  rw [lg_entry_eq]
  generalize (lg_sl ([.ref h, .ref a]) ++ List.replicate (4 - (lg_sl ([.ref h, .ref a])).length) Slot.unset).toArray = ls at hl ⊢
  have hl : lv_has ls 4 [(0, .ref h), (1, .ref a)] := hl
  refine lv_aload_n hx hb dX1_hasBadDictionary_0 rfl (lv_at hl 1 rfl) ?_
  refine lv_iconst (v := 1) hx hb dX1_hasBadDictionary_1 (by decide) ?_
  refine pq_i (va_runVN (As := [.int 1]) (rest := []) ⟨hx, hb, hml, hown, hts⟩ (c_X0_field l D cI cZ cT a f (O.2.1 j) (O.2.2.1 j) (O.2.2.2 j) _ 1) ⟨va_cnB 1 hts gX1_hasBadDictionary_X0_field_n37 rfl rfl rfl hKN.2.2.2.2.2.1 (hts (.initialized RX0) (by decide +kernel)) (by decide +kernel) ⟨Nat.le_of_ble_eq_true rfl, Nat.le_of_ble_eq_true rfl⟩, hts (.instanceMethod yX0_field) (by decide +kernel), hts (.selects RX0 yX0_field yX0_field) (by decide +kernel)⟩ (pre_v ⟨rfl, ht⟩ hKN (recv hKN ht.1 rfl)) rfl rfl hl.1 rfl (lv_room (Nat.le_of_ble_eq_true rfl)) dX1_hasBadDictionary_2 ⟨Nat.zero_le _, Nat.zero_le _⟩) (fun r2 hr2 => ?_)
  have v2 : r2 = O.2.2.2 j 1 := by
    rw [hr2]
    exact fl1_lt (i := 1) (by omega) ht.2.2
  refine lv_istore_n (lv' := [(2, .int r2), (0, .ref h), (1, .ref a)]) hx hb dX1_hasBadDictionary_5 rfl hl (by decide) rfl (fun ls hl => ?_)
  refine lv_aload_n hx hb dX1_hasBadDictionary_6 rfl (lv_at hl 1 rfl) ?_
  refine lv_iload_n hx hb dX1_hasBadDictionary_7 rfl (lv_at hl 0 rfl) ?_
  refine pq_q (va_runV (As := [.int r2]) (rest := []) ⟨hx, hb, hml, hown, hts⟩ (c_X1_thingMeantBy l D cI cZ cT ρ h tq th O mt wh _ r2) (cwV 1 hts gX1_hasBadDictionary_X1_thingMeantBy rfl rfl rfl (by decide +kernel) ⟨Nat.le_of_ble_eq_true rfl, Nat.le_of_ble_eq_true rfl⟩) (pre_v ⟨rfl, hp⟩ hKN (recv hKN hp.1 rfl)) rfl rfl hl.1 rfl (lv_room (Nat.le_of_ble_eq_true rfl)) dX1_hasBadDictionary_8 ⟨Nat.zero_le _, Nat.zero_le _⟩) (fun h8 => ?_) (fun a8 h8 => ?_)
  · have e8 := tp_none h8
    refine lv_astore_nN (lv' := [(3, .null), (2, .int r2), (0, .ref h), (1, .ref a)]) hx hb dX1_hasBadDictionary_11 rfl hl (by decide) rfl (fun ls hl => ?_)
    refine lv_iload_n hx hb dX1_hasBadDictionary_12 rfl (lv_at hl 1 rfl) ?_
    refine lv_if_eq (tgt := 31) hx hb dX1_hasBadDictionary_13 (by decide) (fun c13 => ?_) (fun c13 => ?_)
    · refine lv_iconst (v := 0) hx hb dX1_hasBadDictionary_31 (by decide) ?_
      refine W.zret (v := 0) (ty := .boolean) hx hb hr rfl (fun t ht hW => ⟨_, rfl, ?_, ht⟩) (fun _ h => absurd h List.not_mem_nil) dX1_hasBadDictionary_32
      rw [v2] at c13
      unfold bad
      rw [if_pos c13]
      rfl
    · refine lv_aload_nN hx hb dX1_hasBadDictionary_16 rfl (lv_at hl 0 rfl) ?_
      refine lv_ifnullN (tgt := 27) hx hb dX1_hasBadDictionary_17 (by decide) ?_
      refine lv_iconst (v := 1) hx hb dX1_hasBadDictionary_27 (by decide) ?_
      refine lv_goto (tgt := 32) hx hb dX1_hasBadDictionary_28 (by decide) ?_
      refine W.zret (v := 1) (ty := .boolean) hx hb hr rfl (fun t ht hW => ⟨_, rfl, ?_, ht⟩) (fun _ h => absurd h List.not_mem_nil) dX1_hasBadDictionary_32
      rw [v2] at c13 e8
      unfold bad
      rw [if_neg c13, e8]
      rfl
  · obtain ⟨j8, f8, e8, x8, y8, z8, l8, u8, m8, t8⟩ := tp_some h8
    refine lv_astore_n (lv' := [(3, .ref a8), (2, .int r2), (0, .ref h), (1, .ref a)]) hx hb dX1_hasBadDictionary_11 rfl hl (by decide) rfl (fun ls hl => ?_)
    refine lv_iload_n hx hb dX1_hasBadDictionary_12 rfl (lv_at hl 1 rfl) ?_
    refine lv_if_eq (tgt := 31) hx hb dX1_hasBadDictionary_13 (by decide) (fun c13 => ?_) (fun c13 => ?_)
    · refine lv_iconst (v := 0) hx hb dX1_hasBadDictionary_31 (by decide) ?_
      refine W.zret (v := 0) (ty := .boolean) hx hb hr rfl (fun t ht hW => ⟨_, rfl, ?_, ht⟩) (fun _ h => absurd h List.not_mem_nil) dX1_hasBadDictionary_32
      rw [v2] at c13
      unfold bad
      rw [if_pos c13]
      rfl
    · refine lv_aload_n hx hb dX1_hasBadDictionary_16 rfl (lv_at hl 0 rfl) ?_
      refine lv_ifnull hx hb dX1_hasBadDictionary_17 ?_
      refine lv_aload_n hx hb dX1_hasBadDictionary_20 rfl (lv_at hl 0 rfl) ?_
      refine va_getN (D := D) (ci := 0) (v := .int (b2i (O.2.1 j8))) (C := RX0) (T := TX0) (N := 2) (host := RX1) hx hb hts (iw_X1_hasBadDictionary_X0) hown hK (one t8.1) 0 rfl rfl 1 (by decide) (va_Nw.use rfl hKN.2.2.2.1) (fun _ h9 => h9) rfl dX1_hasBadDictionary_21 ?_
      refine lv_if_ne (tgt := 31) hx hb dX1_hasBadDictionary_24 (by decide) (fun c24 => ?_) (fun c24 => ?_)
      · refine lv_iconst (v := 0) hx hb dX1_hasBadDictionary_31 (by decide) ?_
        refine W.zret (v := 0) (ty := .boolean) hx hb hr rfl (fun t ht hW => ⟨_, rfl, ?_, ht⟩) (fun _ h => absurd h List.not_mem_nil) dX1_hasBadDictionary_32
        rw [v2] at c13 e8
        unfold bad
        rw [if_neg c13, e8]
        show _ = b2i (!(O.2.1 j8))
        rw [b2i_n c24]
        rfl
      · refine lv_iconst (v := 1) hx hb dX1_hasBadDictionary_27 (by decide) ?_
        refine lv_goto (tgt := 32) hx hb dX1_hasBadDictionary_28 (by decide) ?_
        refine W.zret (v := 1) (ty := .boolean) hx hb hr rfl (fun t ht hW => ⟨_, rfl, ?_, ht⟩) (fun _ h => absurd h List.not_mem_nil) dX1_hasBadDictionary_32
        rw [v2] at c13 e8
        unfold bad
        rw [if_neg c13, e8]
        show _ = b2i (!(O.2.1 j8))
        rw [b2i_z c24]
        rfl
end
section
theorem iw_X1_findIn_X1 : ∀ w ∈ wsX10, w ∈ wsX1_findIn := by decide +kernel
theorem iw_X1_findIn_X0 : ∀ w ∈ wsX00, w ∈ wsX1_findIn := by decide +kernel
theorem iw_X1_goUp_X1 : ∀ w ∈ wsX10, w ∈ wsX1_goUp := by decide +kernel
theorem iw_X1_goUp_X0 : ∀ w ∈ wsX00, w ∈ wsX1_goUp := by decide +kernel
theorem iw_X1_lookUp_X1 : ∀ w ∈ wsX10, w ∈ wsX1_lookUp := by decide +kernel
theorem iw_X1_lookUp_X0 : ∀ w ∈ wsX00, w ∈ wsX1_lookUp := by decide +kernel
theorem iw_X1_above_X1 : ∀ w ∈ wsX10, w ∈ wsX1_above := by decide +kernel
theorem iw_X1_above_X0 : ∀ w ∈ wsX00, w ∈ wsX1_above := by decide +kernel
theorem iw_X1_method_X1 : ∀ w ∈ wsX10, w ∈ wsX1_method := by decide +kernel
theorem iw_X1_where_X1 : ∀ w ∈ wsX10, w ∈ wsX1_where := by decide +kernel
theorem iw_X1_get_X1 : ∀ w ∈ wsX10, w ∈ wsX1_get := by decide +kernel
theorem iw_X1_get_X0 : ∀ w ∈ wsX00, w ∈ wsX1_get := by decide +kernel
theorem iw_X1_size_X1 : ∀ w ∈ wsX10, w ∈ wsX1_size := by decide +kernel
theorem iw_X1_size_X0 : ∀ w ∈ wsX00, w ∈ wsX1_size := by decide +kernel
theorem pmF_lt {g : Nat → Int32} {n : Nat} {sel : Int32} {i : Nat} : ∀ (q k : Nat), pmF g n sel q k = some i → i + 1 < n
  | 0, k, h => by cases h
  | q + 1, k, h => by
    rw [pmF] at h
    split at h
    · rename_i h1
      split at h
      · cases h
        exact h1
      · exact pmF_lt q (k + 2) h
    · cases h
theorem pm_lt {g : Nat → Int32} {n : Nat} {sel : Int32} {i : Nat} (h : pm g n sel = some i) : i + 1 < n := pmF_lt 21 0 h
theorem nI_nm1 {n : Nat} (h : n < 2 ^ 31) : ¬ nI n = -1 := by
  intro e
  have := congrArg Int32.toInt e
  rw [nI_toInt h, i_m1] at this
  omega
theorem cls_even {O : Ob} {v : Int32} {j : Nat} (h : cls O v = some j) : v.toInt % 2 = 0 := tv_is_even (cls_tv h).1
set_option maxHeartbeats 4000000 in
set_option maxRecDepth 100000 in
theorem c_X1_findIn_null (l : Launch) (D : va_G) (cI cZ cT : ClassId) (ρ : Nat → Nat) (h tq : Nat) (th : Nat → Option Nat) (O : Ob) (mt wh : Int32) (H0 : Heap) (sel : Int32) : Met l yX1_findIn wsX1_findIn ({ frames := 2, cells := 0, slots := 0, locals := 42 }) (pK D cI cZ cT [.ref h, .null, .int sel] (fun H => H = H0 ∧ px D cI cT ρ h tq th O mt wh H0)) (vp_Si (fun r => r = 0)) 0 0 (fun _ => False) := by
  refine Met.ofW (cc := cX1_findIn) (maxL := 4) (ret := (some .boolean)) (by decide) rfl ?_
  intro p e s m args below meth c s₁ B hml hv
  obtain ⟨rfl, hpic, hKN⟩ := hv
  have hK := hKN.1
  have hx := B.exec
  have hb := B.bytes
  have hr := B.returns
  have hts := atoms_spec (ws := wsX1_findIn) B.pre
  have hown : s.vm.findClass RX1 = some m.cls := findClass_of_methodNamed B.named
  have hlocks := B.notSynchronized
  obtain ⟨hH, hp⟩ := hpic
  subst hH
  have hl := lv_entry ([.ref h, .null, .int sel]) (n := 4) (Nat.le_of_ble_eq_true rfl)
  rw [lg_entry_eq]
  generalize (lg_sl ([.ref h, .null, .int sel]) ++ List.replicate (4 - (lg_sl ([.ref h, .null, .int sel])).length) Slot.unset).toArray = ls at hl ⊢
  have hl : lv_has ls 4 [(0, .ref h), (1, .null), (2, .int sel)] := hl
  refine lv_aload_nN hx hb dX1_findIn_0 rfl (lv_at hl 1 rfl) ?_
  refine lv_ifnonnullN hx hb dX1_findIn_1 ?_
  refine lv_iconst (v := (-1)) hx hb dX1_findIn_4 (by decide) ?_
  refine lv_goto (tgt := 13) hx hb dX1_findIn_5 (by decide) ?_
  refine lv_istore_n (lv' := [(3, .int (-1)), (0, .ref h), (1, .null), (2, .int sel)]) hx hb dX1_findIn_13 rfl hl (by decide) rfl (fun ls hl => ?_)
  refine lv_iload_n hx hb dX1_findIn_14 rfl (lv_at hl 0 rfl) ?_
  refine lv_iconst (v := (-1)) hx hb dX1_findIn_15 (by decide) ?_
  refine lv_icmp_ne (tgt := 21) hx hb dX1_findIn_16 (by decide) (fun c9 => absurd rfl c9) (fun _ => ?_)
  refine lv_iconst (v := 0) hx hb dX1_findIn_19 (by decide) ?_
  refine W.zret (v := 0) (ty := .boolean) hx hb hr rfl (fun t ht hW => ⟨_, rfl, ?_, ht⟩) (fun _ h => absurd h List.not_mem_nil) dX1_findIn_20
  rfl
set_option maxHeartbeats 4000000 in
set_option maxRecDepth 100000 in
theorem c_X1_findIn (l : Launch) (D : va_G) (cI cZ cT : ClassId) (ρ : Nat → Nat) (h tq : Nat) (th : Nat → Option Nat) (O : Ob) (mt wh : Int32) (H0 : Heap) (sel : Int32) (j a f : Nat) (ht : tg D cI a f (O.2.1 j) (O.2.2.1 j) (O.2.2.2 j) H0) : Met l yX1_findIn wsX1_findIn ({ frames := 2, cells := 0, slots := 0, locals := 42 }) (pK D cI cZ cT [.ref h, .ref a, .int sel] (fun H => H = H0 ∧ px D cI cT ρ h tq th O mt wh H0)) (pm_Qi (fun r H1 => (pm (O.2.2.2 j) (O.2.2.1 j) sel = none ∧ r = 0 ∧ px D cI cT ρ h tq th O mt wh H1) ∨ (∃ i, pm (O.2.2.2 j) (O.2.2.1 j) sel = some i ∧ r = 1 ∧ px D cI cT ρ h tq th O (O.2.2.2 j (i + 1)) wh H1)) (fun q : Nat => q = h)) 0 0 (fun q : Nat => q = h) := by
  refine Met.ofW (cc := cX1_findIn) (maxL := 4) (ret := (some .boolean)) (by decide) rfl ?_
  intro p e s m args below meth c s₁ B hml hv
  obtain ⟨rfl, hpic, hKN⟩ := hv
  have hK := hKN.1
  have hx := B.exec
  have hb := B.bytes
  have hr := B.returns
  have hts := atoms_spec (ws := wsX1_findIn) B.pre
  have hown : s.vm.findClass RX1 = some m.cls := findClass_of_methodNamed B.named
  have hlocks := B.notSynchronized
  obtain ⟨hH, hp⟩ := hpic
  subst hH
  have hS : va_S (fun q : Nat => q = h) s.heap s.heap [] := va_S.rf
  have hl := lv_entry ([.ref h, .ref a, .int sel]) (n := 4) (Nat.le_of_ble_eq_true rfl)
  rw [lg_entry_eq]
  generalize (lg_sl ([.ref h, .ref a, .int sel]) ++ List.replicate (4 - (lg_sl ([.ref h, .ref a, .int sel])).length) Slot.unset).toArray = ls at hl ⊢
  have hl : lv_has ls 4 [(0, .ref h), (1, .ref a), (2, .int sel)] := hl
  refine lv_aload_n hx hb dX1_findIn_0 rfl (lv_at hl 1 rfl) ?_
  refine lv_ifnonnull (tgt := 8) hx hb dX1_findIn_1 (by decide) ?_
  refine lv_aload_n hx hb dX1_findIn_8 rfl (lv_at hl 1 rfl) ?_
  refine lv_iload_n hx hb dX1_findIn_9 rfl (lv_at hl 2 rfl) ?_
  refine pq_i (va_runVN (As := [.int sel]) (rest := []) ⟨hx, hb, hml, hown, hts⟩ (c_X0_placeOfMethod l D cI cZ cT a f (O.2.1 j) (O.2.2.1 j) (O.2.2.2 j) _ sel) ⟨va_cnB 1 hts gX1_findIn_X0_placeOfMethod_n78 rfl rfl rfl hKN.2.2.2.2.2.2.2.1 (hts (.initialized RX0) (by decide +kernel)) (by decide +kernel) ⟨Nat.le_of_ble_eq_true rfl, Nat.le_of_ble_eq_true rfl⟩, hts (.instanceMethod yX0_placeOfMethod) (by decide +kernel), hts (.selects RX0 yX0_placeOfMethod yX0_placeOfMethod) (by decide +kernel)⟩ (pre_v ⟨rfl, ht⟩ hKN (recv hKN ht.1 rfl)) rfl rfl hl.1 rfl (lv_room (Nat.le_of_ble_eq_true rfl)) dX1_findIn_10 ⟨Nat.zero_le _, Nat.zero_le _⟩) (fun r10 hr10 => ?_)
  rcases hpm10 : pm (O.2.2.2 j) (O.2.2.1 j) sel with _ | i10
  · rw [hpm10] at hr10
    subst hr10
    show W p l e _ s m _ below meth c _ _ _ _ _ (F0 m 13 ls [.int (-1)])
    refine lv_istore_n (lv' := [(3, .int (-1)), (0, .ref h), (1, .ref a), (2, .int sel)]) hx hb dX1_findIn_13 rfl hl (by decide) rfl (fun ls hl => ?_)
    refine lv_iload_n hx hb dX1_findIn_14 rfl (lv_at hl 0 rfl) ?_
    refine lv_iconst (v := (-1)) hx hb dX1_findIn_15 (by decide) ?_
    refine lv_icmp_ne (tgt := 21) hx hb dX1_findIn_16 (by decide) (fun c9 => absurd rfl c9) (fun _ => ?_)
    refine lv_iconst (v := 0) hx hb dX1_findIn_19 (by decide) ?_
    refine W.zret (v := 0) (ty := .boolean) hx hb hr rfl (fun t ht hW => ⟨⟨_, rfl, ?_⟩, hS.F ht⟩) hS.2.2 dX1_findIn_20
    rw [ht]
    exact Or.inl ⟨rfl, rfl, hp⟩
  · rw [hpm10] at hr10
    subst hr10
    have hlt10 := pm_lt hpm10
    show W p l e _ s m _ below meth c _ _ _ _ _ (F0 m 13 ls [.int (nI (i10 + 1))])
    refine lv_istore_n (lv' := [(3, .int (nI (i10 + 1))), (0, .ref h), (1, .ref a), (2, .int sel)]) hx hb dX1_findIn_13 rfl hl (by decide) rfl (fun ls hl => ?_)
    refine lv_iload_n hx hb dX1_findIn_14 rfl (lv_at hl 0 rfl) ?_
    refine lv_iconst (v := (-1)) hx hb dX1_findIn_15 (by decide) ?_
    refine lv_icmp_ne (tgt := 21) hx hb dX1_findIn_16 (by decide) (fun _ => ?_) (fun c9 => absurd c9 (nI_nm1 (by have := ht.2.2; omega)))
    refine lv_aload_n hx hb dX1_findIn_21 rfl (lv_at hl 1 rfl) ?_
    refine lv_aload_n hx hb dX1_findIn_22 rfl (lv_at hl 2 rfl) ?_
    refine lv_iload_n hx hb dX1_findIn_23 rfl (lv_at hl 0 rfl) ?_
    refine pq_i (va_runVN (As := [.int (nI (i10 + 1))]) (rest := [.ref h]) ⟨hx, hb, hml, hown, hts⟩ (c_X0_field l D cI cZ cT a f (O.2.1 j) (O.2.2.1 j) (O.2.2.2 j) _ (nI (i10 + 1))) ⟨va_cnB 1 hts gX1_findIn_X0_field_n37 rfl rfl rfl hKN.2.2.2.2.2.1 (hts (.initialized RX0) (by decide +kernel)) (by decide +kernel) ⟨Nat.le_of_ble_eq_true rfl, Nat.le_of_ble_eq_true rfl⟩, hts (.instanceMethod yX0_field) (by decide +kernel), hts (.selects RX0 yX0_field yX0_field) (by decide +kernel)⟩ (pre_v ⟨rfl, ht⟩ hKN (recv hKN ht.1 rfl)) rfl rfl hl.1 rfl (lv_room (Nat.le_of_ble_eq_true rfl)) dX1_findIn_24 ⟨Nat.zero_le _, Nat.zero_le _⟩) (fun r24 hr24 => ?_)
    have hr24 : r24 = O.2.2.2 j (i10 + 1) := by
      rw [hr24]
      exact fl1_lt (i := (i10 + 1)) (by omega) ht.2.2
    subst hr24
    refine pw_put (ci := 1) (v := .int (O.2.2.2 j (i10 + 1))) (ty := .int) (C := RX1) (T := TX1) (N := 3) hx hb hts (iw_X1_findIn_X1) tyX1 tyX1_ok nmX1 hown hK hp.1 hS rfl rfl 1 (by decide) (hts (.fieldLink RX1 15 "MethodBook" "foundMethod" "I") (by decide +kernel)) (fun _ h9 => h9) rfl (by decide +kernel) rfl rfl (Nat.le_of_ble_eq_true rfl) dX1_findIn_27 (fun H locs hh hz ho hS => ?_)
    replace hp := px_found (mt' := O.2.2.2 j (i10 + 1)) (wh' := wh) hp hz ho hh hp.2.2.2.2.2.1
    refine lv_iconst (v := 1) hx hb dX1_findIn_30 (by decide) ?_
    refine W.zret (v := 1) (ty := .boolean) hx hb hr rfl (fun t ht hW => ⟨⟨_, rfl, ?_⟩, hS.F ht⟩) hS.2.2 dX1_findIn_31
    rw [ht]
    exact Or.inr ⟨i10, rfl, rfl, hp⟩
set_option maxHeartbeats 4000000 in
set_option maxRecDepth 100000 in
theorem c_X1_method (l : Launch) (D : va_G) (cI cZ cT : ClassId) (ρ : Nat → Nat) (h tq : Nat) (th : Nat → Option Nat) (O : Ob) (mt wh : Int32) (H0 : Heap) : Met l yX1_method wsX1_method ({ frames := 0, cells := 0, slots := 0, locals := 0 }) (pK D cI cZ cT [.ref h] (fun H => H = H0 ∧ px D cI cT ρ h tq th O mt wh H0)) (vp_Si (fun r => r = mt)) 0 0 (fun _ => False) := by
  refine Met.ofW (cc := cX1_method) (maxL := 1) (ret := (some .int)) (by decide) rfl ?_
  intro p e s m args below meth c s₁ B hml hv
  obtain ⟨rfl, hpic, hKN⟩ := hv
  have hK := hKN.1
  have hx := B.exec
  have hb := B.bytes
  have hr := B.returns
  have hts := atoms_spec (ws := wsX1_method) B.pre
  have hown : s.vm.findClass RX1 = some m.cls := findClass_of_methodNamed B.named
  have hlocks := B.notSynchronized
  obtain ⟨hH, hp⟩ := hpic
  subst hH
  have hl := lv_entry ([.ref h]) (n := 1) (Nat.le_of_ble_eq_true rfl)
  rw [lg_entry_eq]
  generalize (lg_sl ([.ref h]) ++ List.replicate (1 - (lg_sl ([.ref h])).length) Slot.unset).toArray = ls at hl ⊢
  have hl : lv_has ls 1 [(0, .ref h)] := hl
  refine lv_aload_n hx hb dX1_method_0 rfl (lv_at hl 0 rfl) ?_
  refine va_get (D := D) (ci := 1) (v := .int mt) (C := RX1) (T := TX1) (N := 3) hx hb hts (iw_X1_method_X1) hown hK (one hp.1) 0 rfl rfl 1 (by decide) (hts (.fieldLink RX1 15 "MethodBook" "foundMethod" "I") (by decide +kernel)) (fun _ h9 => h9) rfl dX1_method_1 ?_
  refine W.iret (v := mt) hx hb hr (fun t ht hW => ⟨_, rfl, ?_, ht⟩) (fun _ h => absurd h List.not_mem_nil) dX1_method_4
  rfl
set_option maxHeartbeats 4000000 in
set_option maxRecDepth 100000 in
theorem c_X1_where (l : Launch) (D : va_G) (cI cZ cT : ClassId) (ρ : Nat → Nat) (h tq : Nat) (th : Nat → Option Nat) (O : Ob) (mt wh : Int32) (H0 : Heap) : Met l yX1_where wsX1_where ({ frames := 0, cells := 0, slots := 0, locals := 0 }) (pK D cI cZ cT [.ref h] (fun H => H = H0 ∧ px D cI cT ρ h tq th O mt wh H0)) (vp_Si (fun r => r = wh)) 0 0 (fun _ => False) := by
  refine Met.ofW (cc := cX1_where) (maxL := 1) (ret := (some .int)) (by decide) rfl ?_
  intro p e s m args below meth c s₁ B hml hv
  obtain ⟨rfl, hpic, hKN⟩ := hv
  have hK := hKN.1
  have hx := B.exec
  have hb := B.bytes
  have hr := B.returns
  have hts := atoms_spec (ws := wsX1_where) B.pre
  have hown : s.vm.findClass RX1 = some m.cls := findClass_of_methodNamed B.named
  have hlocks := B.notSynchronized
  obtain ⟨hH, hp⟩ := hpic
  subst hH
  have hl := lv_entry ([.ref h]) (n := 1) (Nat.le_of_ble_eq_true rfl)
  rw [lg_entry_eq]
  generalize (lg_sl ([.ref h]) ++ List.replicate (1 - (lg_sl ([.ref h])).length) Slot.unset).toArray = ls at hl ⊢
  have hl : lv_has ls 1 [(0, .ref h)] := hl
  refine lv_aload_n hx hb dX1_where_0 rfl (lv_at hl 0 rfl) ?_
  refine va_get (D := D) (ci := 1) (v := .int wh) (C := RX1) (T := TX1) (N := 3) hx hb hts (iw_X1_where_X1) hown hK (one hp.1) 0 rfl rfl 2 (by decide) (hts (.fieldLink RX1 19 "MethodBook" "foundClass" "I") (by decide +kernel)) (fun _ h9 => h9) rfl dX1_where_1 ?_
  refine W.iret (v := wh) hx hb hr (fun t ht hW => ⟨_, rfl, ?_, ht⟩) (fun _ h => absurd h List.not_mem_nil) dX1_where_4
  rfl
set_option maxHeartbeats 4000000 in
set_option maxRecDepth 100000 in
theorem c_X1_get (l : Launch) (D : va_G) (cI cZ cT : ClassId) (ρ : Nat → Nat) (h tq : Nat) (th : Nat → Option Nat) (O : Ob) (mt wh : Int32) (H0 : Heap) (k i : Int32) : Met l yX1_get wsX1_get ({ frames := 2, cells := 0, slots := 0, locals := 42 }) (pK D cI cZ cT [.ref h, .int k, .int i] (fun H => H = H0 ∧ px D cI cT ρ h tq th O mt wh H0)) (vp_Si (fun r => r = gto O k i)) 0 0 (fun _ => False) := by
  refine Met.ofW (cc := cX1_get) (maxL := 4) (ret := (some .int)) (by decide) rfl ?_
  intro p e s m args below meth c s₁ B hml hv
  obtain ⟨rfl, hpic, hKN⟩ := hv
  have hK := hKN.1
  have hx := B.exec
  have hb := B.bytes
  have hr := B.returns
  have hts := atoms_spec (ws := wsX1_get) B.pre
  have hown : s.vm.findClass RX1 = some m.cls := findClass_of_methodNamed B.named
  have hlocks := B.notSynchronized
  obtain ⟨hH, hp⟩ := hpic
  subst hH
  have hl := lv_entry ([.ref h, .int k, .int i]) (n := 4) (Nat.le_of_ble_eq_true rfl)
  rw [lg_entry_eq]
  generalize (lg_sl ([.ref h, .int k, .int i]) ++ List.replicate (4 - (lg_sl ([.ref h, .int k, .int i])).length) Slot.unset).toArray = ls at hl ⊢
  have hl : lv_has ls 4 [(0, .ref h), (1, .int k), (2, .int i)] := hl
  refine lv_aload_n hx hb dX1_get_0 rfl (lv_at hl 0 rfl) ?_
  refine lv_iload_n hx hb dX1_get_1 rfl (lv_at hl 1 rfl) ?_
  refine pq_q (va_runV (As := [.int k]) (rest := []) ⟨hx, hb, hml, hown, hts⟩ (c_X1_thingOf l D cI cZ cT ρ h tq th O mt wh _ k) (cwV 1 hts gX1_get_X1_thingOf rfl rfl rfl (by decide +kernel) ⟨Nat.le_of_ble_eq_true rfl, Nat.le_of_ble_eq_true rfl⟩) (pre_v ⟨rfl, hp⟩ hKN (recv hKN hp.1 rfl)) rfl rfl hl.1 rfl (lv_room (Nat.le_of_ble_eq_true rfl)) dX1_get_2 ⟨Nat.zero_le _, Nat.zero_le _⟩) (fun h2 => ?_) (fun a2 h2 => ?_)
  · have e2 := tp_none h2
    refine lv_astore_nN (lv' := [(3, .null), (0, .ref h), (1, .int k), (2, .int i)]) hx hb dX1_get_5 rfl hl (by decide) rfl (fun ls hl => ?_)
    refine lv_aload_nN hx hb dX1_get_6 rfl (lv_at hl 0 rfl) ?_
    refine lv_ifnonnullN hx hb dX1_get_7 ?_
    refine lv_iconst (v := 0) hx hb dX1_get_10 (by decide) ?_
    refine lv_goto (tgt := 19) hx hb dX1_get_11 (by decide) ?_
    refine W.iret (v := 0) hx hb hr (fun t ht hW => ⟨_, rfl, ?_, ht⟩) (fun _ h => absurd h List.not_mem_nil) dX1_get_19
    unfold gto
    rw [e2]
  · obtain ⟨j2, f2, e2, x2, y2, z2, l2, u2, m2, t2⟩ := tp_some h2
    refine lv_astore_n (lv' := [(3, .ref a2), (0, .ref h), (1, .int k), (2, .int i)]) hx hb dX1_get_5 rfl hl (by decide) rfl (fun ls hl => ?_)
    refine lv_aload_n hx hb dX1_get_6 rfl (lv_at hl 0 rfl) ?_
    refine lv_ifnonnull (tgt := 14) hx hb dX1_get_7 (by decide) ?_
    refine lv_aload_n hx hb dX1_get_14 rfl (lv_at hl 0 rfl) ?_
    refine lv_iload_n hx hb dX1_get_15 rfl (lv_at hl 3 rfl) ?_
    refine pq_i (va_runVN (As := [.int i]) (rest := []) ⟨hx, hb, hml, hown, hts⟩ (c_X0_field l D cI cZ cT a2 f2 (O.2.1 j2) (O.2.2.1 j2) (O.2.2.2 j2) _ i) ⟨va_cnB 1 hts gX1_get_X0_field_n37 rfl rfl rfl hKN.2.2.2.2.2.1 (hts (.initialized RX0) (by decide +kernel)) (by decide +kernel) ⟨Nat.le_of_ble_eq_true rfl, Nat.le_of_ble_eq_true rfl⟩, hts (.instanceMethod yX0_field) (by decide +kernel), hts (.selects RX0 yX0_field yX0_field) (by decide +kernel)⟩ (pre_v ⟨rfl, t2⟩ hKN (recv hKN t2.1 rfl)) rfl rfl hl.1 rfl (lv_room (Nat.le_of_ble_eq_true rfl)) dX1_get_16 ⟨Nat.zero_le _, Nat.zero_le _⟩) (fun r16 hr16 => ?_)
    refine W.iret (v := r16) hx hb hr (fun t ht hW => ⟨_, rfl, ?_, ht⟩) (fun _ h => absurd h List.not_mem_nil) dX1_get_19
    unfold gto
    rw [e2]
    exact hr16
set_option maxHeartbeats 4000000 in
set_option maxRecDepth 100000 in
theorem c_X1_size (l : Launch) (D : va_G) (cI cZ cT : ClassId) (ρ : Nat → Nat) (h tq : Nat) (th : Nat → Option Nat) (O : Ob) (mt wh : Int32) (H0 : Heap) (k : Int32) : Met l yX1_size wsX1_size ({ frames := 1, cells := 0, slots := 0, locals := 21 }) (pK D cI cZ cT [.ref h, .int k] (fun H => H = H0 ∧ px D cI cT ρ h tq th O mt wh H0)) (vp_Si (fun r => r = szo O k)) 0 0 (fun _ => False) := by
  refine Met.ofW (cc := cX1_size) (maxL := 3) (ret := (some .int)) (by decide) rfl ?_
  intro p e s m args below meth c s₁ B hml hv
  obtain ⟨rfl, hpic, hKN⟩ := hv
  have hK := hKN.1
  have hx := B.exec
  have hb := B.bytes
  have hr := B.returns
  have hts := atoms_spec (ws := wsX1_size) B.pre
  have hown : s.vm.findClass RX1 = some m.cls := findClass_of_methodNamed B.named
  have hlocks := B.notSynchronized
  obtain ⟨hH, hp⟩ := hpic
  subst hH
  have hl := lv_entry ([.ref h, .int k]) (n := 3) (Nat.le_of_ble_eq_true rfl)
  rw [lg_entry_eq]
  generalize (lg_sl ([.ref h, .int k]) ++ List.replicate (3 - (lg_sl ([.ref h, .int k])).length) Slot.unset).toArray = ls at hl ⊢
  have hl : lv_has ls 3 [(0, .ref h), (1, .int k)] := hl
  refine lv_aload_n hx hb dX1_size_0 rfl (lv_at hl 0 rfl) ?_
  refine lv_iload_n hx hb dX1_size_1 rfl (lv_at hl 1 rfl) ?_
  refine pq_q (va_runV (As := [.int k]) (rest := []) ⟨hx, hb, hml, hown, hts⟩ (c_X1_thingOf l D cI cZ cT ρ h tq th O mt wh _ k) (cwV 1 hts gX1_size_X1_thingOf rfl rfl rfl (by decide +kernel) ⟨Nat.le_of_ble_eq_true rfl, Nat.le_of_ble_eq_true rfl⟩) (pre_v ⟨rfl, hp⟩ hKN (recv hKN hp.1 rfl)) rfl rfl hl.1 rfl (lv_room (Nat.le_of_ble_eq_true rfl)) dX1_size_2 ⟨Nat.zero_le _, Nat.zero_le _⟩) (fun h2 => ?_) (fun a2 h2 => ?_)
  · have e2 := tp_none h2
    refine lv_astore_nN (lv' := [(2, .null), (0, .ref h), (1, .int k)]) hx hb dX1_size_5 rfl hl (by decide) rfl (fun ls hl => ?_)
    refine lv_aload_nN hx hb dX1_size_6 rfl (lv_at hl 0 rfl) ?_
    refine lv_ifnullN (tgt := 17) hx hb dX1_size_7 (by decide) ?_
    refine lv_iconst (v := (-1)) hx hb dX1_size_17 (by decide) ?_
    refine lv_goto (tgt := 26) hx hb dX1_size_18 (by decide) ?_
    refine W.iret (v := (-1)) hx hb hr (fun t ht hW => ⟨_, rfl, ?_, ht⟩) (fun _ h => absurd h List.not_mem_nil) dX1_size_26
    unfold szo
    rw [e2]
  · obtain ⟨j2, f2, e2, x2, y2, z2, l2, u2, m2, t2⟩ := tp_some h2
    refine lv_astore_n (lv' := [(2, .ref a2), (0, .ref h), (1, .int k)]) hx hb dX1_size_5 rfl hl (by decide) rfl (fun ls hl => ?_)
    refine lv_aload_n hx hb dX1_size_6 rfl (lv_at hl 0 rfl) ?_
    refine lv_ifnull hx hb dX1_size_7 ?_
    refine lv_aload_n hx hb dX1_size_10 rfl (lv_at hl 0 rfl) ?_
    refine va_getN (D := D) (ci := 0) (v := .int (b2i (O.2.1 j2))) (C := RX0) (T := TX0) (N := 2) (host := RX1) hx hb hts (iw_X1_size_X0) hown hK (one t2.1) 0 rfl rfl 1 (by decide) (va_Nw.use rfl hKN.2.2.2.1) (fun _ h9 => h9) rfl dX1_size_11 ?_
    refine lv_if_ne (tgt := 21) hx hb dX1_size_14 (by decide) (fun c14 => ?_) (fun c14 => ?_)
    · refine lv_aload_n hx hb dX1_size_21 rfl (lv_at hl 0 rfl) ?_
      refine va_getN (D := D) (ci := 0) (v := .ref f2) (C := RX0) (T := TX0) (N := 2) (host := RX1) hx hb hts (iw_X1_size_X0) hown hK (one t2.1) 0 rfl rfl 0 (by decide) (va_Nw.use rfl hKN.2.2.1) (fun _ h9 => h9) rfl dX1_size_22 ?_
      refine va_alen (v := (nI (O.2.2.1 j2))) hx hb hK (one t2.2.1) 0 0 rfl rfl rfl dX1_size_25 ?_
      refine W.iret (v := (nI (O.2.2.1 j2))) hx hb hr (fun t ht hW => ⟨_, rfl, ?_, ht⟩) (fun _ h => absurd h List.not_mem_nil) dX1_size_26
      unfold szo
      rw [e2]
      show _ = (if _ then _ else _)
      rw [if_pos (b2i_n c14)]
    · refine lv_iconst (v := (-1)) hx hb dX1_size_17 (by decide) ?_
      refine lv_goto (tgt := 26) hx hb dX1_size_18 (by decide) ?_
      refine W.iret (v := (-1)) hx hb hr (fun t ht hW => ⟨_, rfl, ?_, ht⟩) (fun _ h => absurd h List.not_mem_nil) dX1_size_26
      unfold szo
      rw [e2]
      show _ = (if _ then _ else _)
      rw [if_neg (by rw [b2i_z c14]; decide)]
end
section
theorem tg_h {D : va_G} {cI cT : ClassId} {ρ : Nat → Nat} {h tq : Nat} {th : Nat → Option Nat} {O : Ob} {mt wh : Int32} {H H1 : Heap} {a f j : Nat} {fb : Bool} {n : Nat} {g : Nat → Int32} (hp : px D cI cT ρ h tq th O mt wh H) (y : ρ a = 2 * j + 3) (z : ρ f = 2 * j + 4) (t : tg D cI a f fb n g H) (hk : ∀ q : Nat, q < H.size → ¬ q = h → H1[q]? = H[q]?) : tg D cI a f fb n g H1 := by
  obtain ⟨-, -, r1, -, hs, -⟩ := hp
  exact tg_keep t (hk a (hs a (by omega)) (fun e => by rw [e, r1] at y; omega)) (hk f (hs f (by omega)) (fun e => by rw [e, r1] at z; omega))
theorem fnd_none {O : Ob} {d sel : Int32} (h : tv O d = none) : fnd O d sel = none := by
  unfold fnd
  rw [h]
theorem fnd_not {O : Ob} {d sel : Int32} {e : Nat} (h : tv O d = some e) (h2 : pm (O.2.2.2 e) (O.2.2.1 e) sel = none) : fnd O d sel = none := by
  unfold fnd
  rw [h]
  show (match pm (O.2.2.2 e) (O.2.2.1 e) sel with | none => none | some i => some (O.2.2.2 e (i + 1))) = none
  rw [h2]
theorem fnd_some {O : Ob} {d sel : Int32} {e i : Nat} (h : tv O d = some e) (h2 : pm (O.2.2.2 e) (O.2.2.1 e) sel = some i) : fnd O d sel = some (O.2.2.2 e (i + 1)) := by
  unfold fnd
  rw [h]
  show (match pm (O.2.2.2 e) (O.2.2.1 e) sel with | none => none | some i => some (O.2.2.2 e (i + 1))) = some (O.2.2.2 e (i + 1))
  rw [h2]
theorem up_nil {O : Ob} {sel c n : Int32} {q : Nat} (h : c = 0) : up O sel (q + 1) c n = (-1, 0, 0) := by
  rw [up, if_pos h]
theorem up_none {O : Ob} {sel c n : Int32} {q : Nat} (h : ¬ c = 0) (h2 : cls O c = none) : up O sel (q + 1) c n = (-2, 0, 0) := by
  rw [up, if_neg h, h2]
theorem up_bad {O : Ob} {sel c n : Int32} {q j : Nat} (h : ¬ c = 0) (h2 : cls O c = some j) (h3 : bad O (O.2.2.2 j 1) = true) : up O sel (q + 1) c n = (-2, 0, 0) := by
  simp only [up, if_neg h, h2, h3, if_true]
theorem up_fnd {O : Ob} {sel c n m : Int32} {q j : Nat} (h : ¬ c = 0) (h2 : cls O c = some j) (h3 : bad O (O.2.2.2 j 1) = false) (h4 : fnd O (O.2.2.2 j 1) sel = some m) : up O sel (q + 1) c n = (n, m, c) := by
  simp [up, if_neg h, h2, h3, h4]
theorem up_go {O : Ob} {sel c n : Int32} {q j : Nat} (h : ¬ c = 0) (h2 : cls O c = some j) (h3 : bad O (O.2.2.2 j 1) = false) (h4 : fnd O (O.2.2.2 j 1) sel = none) : up O sel (q + 1) c n = up O sel q (O.2.2.2 j 0) (n + 1) := by
  simp [up, if_neg h, h2, h3, h4]
set_option maxHeartbeats 4000000 in
set_option maxRecDepth 100000 in
theorem c_X1_goUp (l : Launch) (D : va_G) (cI cZ cT : ClassId) (ρ : Nat → Nat) (h tq : Nat) (th : Nat → Option Nat) (O : Ob) (H0 : Heap) (c0 sel : Int32) : Met l yX1_goUp wsX1_goUp ({ frames := 3, cells := 0, slots := 0, locals := 65 }) (pK D cI cZ cT [.ref h, .int c0, .int sel] (fun H => H = H0 ∧ px D cI cT ρ h tq th O 0 0 H0)) (pm_Qi (fun r H1 => r = (up O sel 100 c0 0).1 ∧ px D cI cT ρ h tq th O (up O sel 100 c0 0).2.1 (up O sel 100 c0 0).2.2 H1) (fun q : Nat => q = h)) 0 0 (fun q : Nat => q = h) := by
  refine Met.ofW (cc := cX1_goUp) (maxL := 6) (ret := (some .int)) (by decide) rfl ?_
  intro p e s m args below meth c s₁ B hml hv
  obtain ⟨rfl, hpic, hKN⟩ := hv
  have hK := hKN.1
  have hx := B.exec
  have hb := B.bytes
  have hr := B.returns
  have hts := atoms_spec (ws := wsX1_goUp) B.pre
  have hown : s.vm.findClass RX1 = some m.cls := findClass_of_methodNamed B.named
  have hlocks := B.notSynchronized
  obtain ⟨hH, hp⟩ := hpic
  subst hH
  have hS : va_S (fun q : Nat => q = h) s.heap s.heap [] := va_S.rf
  have hl := lv_entry ([.ref h, .int c0, .int sel]) (n := 6) (Nat.le_of_ble_eq_true rfl)
  rw [lg_entry_eq]
  generalize (lg_sl ([.ref h, .int c0, .int sel]) ++ List.replicate (6 - (lg_sl ([.ref h, .int c0, .int sel])).length) Slot.unset).toArray = ls at hl ⊢
  have hl : lv_has ls 6 [(0, .ref h), (1, .int c0), (2, .int sel)] := hl
  refine lv_iload_n hx hb dX1_goUp_0 rfl (lv_at hl 1 rfl) ?_
  refine lv_istore_n (lv' := [(3, .int c0), (0, .ref h), (1, .int c0), (2, .int sel)]) hx hb dX1_goUp_1 rfl hl (by decide) rfl (fun ls hl => ?_)
  refine lv_iconst (v := 0) hx hb dX1_goUp_2 (by decide) ?_
  refine lv_istore (lv' := [(4, .int 0), (3, .int c0), (0, .ref h), (1, .int c0), (2, .int sel)]) hx hb dX1_goUp_3 hl (by decide) rfl (fun ls hl => ?_)
  have loop : ∀ (q k : Nat) (c9 : Int32), k + q = 100 → up O sel 100 c0 0 = up O sel q c9 (nI k) → ∀ (H : Heap) (locs : List Loc), px D cI cT ρ h tq th O 0 0 H → va_S (fun q : Nat => q = h) s.heap H locs → ∀ ls : Array Slot, lv_has ls 6 [(0, .ref h), (1, .int c0), (2, .int sel), (3, .int c9), (4, .int (nI k))] → W p l e (headSpec wsX1_goUp ({ frames := 3, cells := 0, slots := 0, locals := 65 })).room s m ([.ref h, .int c0, .int sel] : List Value).toArray below meth c H locs 0 0 (MQ below (pm_Qi (fun r H1 => r = (up O sel 100 c0 0).1 ∧ px D cI cT ρ h tq th O (up O sel 100 c0 0).2.1 (up O sel 100 c0 0).2.2 H1) (fun q : Nat => q = h)) ([.ref h, .int c0, .int sel] : List Value).toArray s 0 0 (fun q : Nat => q = h)) (F0 m 5 ls []) := by
    intro q
    induction q with
    | zero =>
      intro k c9 h1 hu H locs hp hS ls hl
      refine lv_iload hx hb dX1_goUp_5 (lv_at hl 4 rfl) ?_
      refine lv_bipush (v := 100) hx hb dX1_goUp_7 (by decide) ?_
      refine lv_icmp_ge (tgt := 81) hx hb dX1_goUp_9 (by decide) (fun _ => ?_) (fun c9 => absurd (by rw [i_le, i_100, nI_toInt (by omega)]; omega) c9)
      refine lv_iload_n hx hb dX1_goUp_81 rfl (lv_at hl 3 rfl) ?_
      refine lv_if_ne (tgt := 89) hx hb dX1_goUp_82 (by decide) (fun c82 => ?_) (fun c82 => ?_)
      · refine lv_bipush (v := (-2)) hx hb dX1_goUp_89 (by decide) ?_
        refine W.iret (v := (-2)) hx hb hr (fun t ht hW => ⟨⟨_, rfl, ?_⟩, hS.F ht⟩) hS.2.2 dX1_goUp_91
        rw [ht]
        rw [hu, up, if_neg c82]
        exact ⟨rfl, hp⟩
      · refine lv_iconst (v := (-1)) hx hb dX1_goUp_85 (by decide) ?_
        refine lv_goto (tgt := 91) hx hb dX1_goUp_86 (by decide) ?_
        refine W.iret (v := (-1)) hx hb hr (fun t ht hW => ⟨⟨_, rfl, ?_⟩, hS.F ht⟩) hS.2.2 dX1_goUp_91
        rw [ht]
        rw [hu, up, if_pos c82]
        exact ⟨rfl, hp⟩
    | succ q ih =>
      intro k c9 h1 hu H locs hp hS ls hl
      refine lv_iload hx hb dX1_goUp_5 (lv_at hl 4 rfl) ?_
      refine lv_bipush (v := 100) hx hb dX1_goUp_7 (by decide) ?_
      refine lv_icmp_ge (tgt := 81) hx hb dX1_goUp_9 (by decide) (fun c9 => absurd c9 (by rw [i_le, i_100, nI_toInt (by omega)]; omega)) (fun _ => ?_)
      refine lv_iload_n hx hb dX1_goUp_12 rfl (lv_at hl 3 rfl) ?_
      refine lv_if_ne (tgt := 18) hx hb dX1_goUp_13 (by decide) (fun c13 => ?_) (fun c13 => ?_)
      · refine lv_aload_n hx hb dX1_goUp_18 rfl (lv_at hl 0 rfl) ?_
        refine lv_iload_n hx hb dX1_goUp_19 rfl (lv_at hl 3 rfl) ?_
        refine pq_q (va_runV (As := [.int c9]) (rest := []) ⟨hx, hb, hml, hown, hts⟩ (c_X1_classMeantBy l D cI cZ cT ρ h tq th O 0 0 _ c9) (cwV 1 hts gX1_goUp_X1_classMeantBy rfl rfl rfl (by decide +kernel) ⟨Nat.le_of_ble_eq_true rfl, Nat.le_of_ble_eq_true rfl⟩) (pre_v ⟨rfl, hp⟩ hKN (recv hKN hp.1 rfl)) rfl rfl hl.1 rfl (lv_room (Nat.le_of_ble_eq_true rfl)) dX1_goUp_20 ⟨Nat.zero_le _, Nat.zero_le _⟩) (fun h20 => ?_) (fun a20 h20 => ?_)
        · have e20 := tp_none h20
          refine lv_astoreN (lv' := [(5, .null), (0, .ref h), (1, .int c0), (2, .int sel), (3, .int c9), (4, .int (nI k))]) hx hb dX1_goUp_23 hl (by decide) rfl (fun ls hl => ?_)
          refine lv_aloadN hx hb dX1_goUp_25 (lv_at hl 0 rfl) ?_
          refine lv_ifnullN (tgt := 39) hx hb dX1_goUp_27 (by decide) ?_
          refine lv_bipush (v := (-2)) hx hb dX1_goUp_39 (by decide) ?_
          refine W.iret (v := (-2)) hx hb hr (fun t ht hW => ⟨⟨_, rfl, ?_⟩, hS.F ht⟩) hS.2.2 dX1_goUp_41
          rw [ht]
          rw [hu, up_none c13 e20]
          exact ⟨rfl, hp⟩
        · obtain ⟨j20, f20, e20, x20, y20, z20, l20, u20, m20, t20⟩ := tp_some h20
          refine lv_astore (lv' := [(5, .ref a20), (0, .ref h), (1, .int c0), (2, .int sel), (3, .int c9), (4, .int (nI k))]) hx hb dX1_goUp_23 hl (by decide) rfl (fun ls hl => ?_)
          refine lv_aload hx hb dX1_goUp_25 (lv_at hl 0 rfl) ?_
          refine lv_ifnull hx hb dX1_goUp_27 ?_
          refine lv_aload_n hx hb dX1_goUp_30 rfl (lv_at hl 1 rfl) ?_
          refine lv_aload hx hb dX1_goUp_31 (lv_at hl 0 rfl) ?_
          refine pq_b (va_runV (As := [.ref a20]) (rest := []) ⟨hx, hb, hml, hown, hts⟩ (c_X1_hasBadDictionary l D cI cZ cT ρ h tq th O 0 0 _ j20 a20 f20 t20 (cls_tv e20).2) (cwV 1 hts gX1_goUp_X1_hasBadDictionary rfl rfl rfl (by decide +kernel) ⟨Nat.le_of_ble_eq_true rfl, Nat.le_of_ble_eq_true rfl⟩) (pre_v ⟨rfl, hp⟩ hKN (recv hKN hp.1 rfl)) rfl rfl hl.1 rfl (lv_room (Nat.le_of_ble_eq_true rfl)) dX1_goUp_33 ⟨Nat.zero_le _, Nat.zero_le _⟩) (fun b33 => ?_) (fun b33 => ?_)
          · refine lv_if_eq (tgt := 42) hx hb dX1_goUp_36 (by decide) (fun _ => ?_) (fun c9 => absurd (by decide) c9)
            refine lv_aload_n hx hb dX1_goUp_42 rfl (lv_at hl 1 rfl) ?_
            refine lv_aload_n hx hb dX1_goUp_43 rfl (lv_at hl 1 rfl) ?_
            refine lv_aload hx hb dX1_goUp_44 (lv_at hl 0 rfl) ?_
            refine lv_iconst (v := 1) hx hb dX1_goUp_46 (by decide) ?_
            have q20 := (cls_tv e20).2
            refine pq_i (va_runVN (As := [.int 1]) (rest := [.ref h, .ref h]) ⟨hx, hb, hml, hown, hts⟩ (c_X0_field l D cI cZ cT a20 f20 (O.2.1 j20) (O.2.2.1 j20) (O.2.2.2 j20) _ 1) ⟨va_cnB 1 hts gX1_goUp_X0_field_n37 rfl rfl rfl hKN.2.2.2.2.2.1 (hts (.initialized RX0) (by decide +kernel)) (by decide +kernel) ⟨Nat.le_of_ble_eq_true rfl, Nat.le_of_ble_eq_true rfl⟩, hts (.instanceMethod yX0_field) (by decide +kernel), hts (.selects RX0 yX0_field yX0_field) (by decide +kernel)⟩ (pre_v ⟨rfl, t20⟩ hKN (recv hKN t20.1 rfl)) rfl rfl hl.1 rfl (lv_room (Nat.le_of_ble_eq_true rfl)) dX1_goUp_47 ⟨Nat.zero_le _, Nat.zero_le _⟩) (fun r47 hr47 => ?_)
            have hr47 : r47 = O.2.2.2 j20 1 := by
              rw [hr47]
              exact fl1_lt (i := 1) (by omega) t20.2.2
            subst hr47
            refine pq_q (va_runV (As := [.int (O.2.2.2 j20 1)]) (rest := [.ref h]) ⟨hx, hb, hml, hown, hts⟩ (c_X1_thingMeantBy l D cI cZ cT ρ h tq th O 0 0 _ (O.2.2.2 j20 1)) (cwV 1 hts gX1_goUp_X1_thingMeantBy rfl rfl rfl (by decide +kernel) ⟨Nat.le_of_ble_eq_true rfl, Nat.le_of_ble_eq_true rfl⟩) (pre_v ⟨rfl, hp⟩ hKN (recv hKN hp.1 rfl)) rfl rfl hl.1 rfl (lv_room (Nat.le_of_ble_eq_true rfl)) dX1_goUp_50 ⟨Nat.zero_le _, Nat.zero_le _⟩) (fun h50 => ?_) (fun a50 h50 => ?_)
            · have e50 := tp_none h50
              refine lv_iload_n hx hb dX1_goUp_53 rfl (lv_at hl 3 rfl) ?_
              refine pq_i (va_runV (As := [.null, .int sel]) (rest := []) ⟨hx, hb, hml, hown, hts⟩ (c_X1_findIn_null l D cI cZ cT ρ h tq th O 0 0 _ sel) (cwV 2 hts gX1_goUp_X1_findIn rfl rfl rfl (by decide +kernel) ⟨Nat.le_of_ble_eq_true rfl, Nat.le_of_ble_eq_true rfl⟩) (pre_v ⟨rfl, hp⟩ hKN (recv hKN hp.1 rfl)) rfl rfl hl.1 rfl (lv_room (Nat.le_of_ble_eq_true rfl)) dX1_goUp_54 ⟨Nat.zero_le _, Nat.zero_le _⟩) (fun r54 hr54 => ?_)
              subst hr54
              have hf : fnd O (O.2.2.2 j20 1) sel = none := fnd_none e50
              refine lv_if_eq (tgt := 68) hx hb dX1_goUp_57 (by decide) (fun _ => ?_) (fun c9 => absurd (by decide) c9)
              refine lv_aload hx hb dX1_goUp_68 (lv_at hl 0 rfl) ?_
              refine lv_iconst (v := 0) hx hb dX1_goUp_70 (by decide) ?_
              have q20 := (cls_tv e20).2
              refine pq_i (va_runVN (As := [.int 0]) (rest := []) ⟨hx, hb, hml, hown, hts⟩ (c_X0_field l D cI cZ cT a20 f20 (O.2.1 j20) (O.2.2.1 j20) (O.2.2.2 j20) _ 0) ⟨va_cnB 1 hts gX1_goUp_X0_field_n37 rfl rfl rfl hKN.2.2.2.2.2.1 (hts (.initialized RX0) (by decide +kernel)) (by decide +kernel) ⟨Nat.le_of_ble_eq_true rfl, Nat.le_of_ble_eq_true rfl⟩, hts (.instanceMethod yX0_field) (by decide +kernel), hts (.selects RX0 yX0_field yX0_field) (by decide +kernel)⟩ (pre_v ⟨rfl, t20⟩ hKN (recv hKN t20.1 rfl)) rfl rfl hl.1 rfl (lv_room (Nat.le_of_ble_eq_true rfl)) dX1_goUp_71 ⟨Nat.zero_le _, Nat.zero_le _⟩) (fun r71 hr71 => ?_)
              have hr71 : r71 = O.2.2.2 j20 0 := by
                rw [hr71]
                exact fl1_lt (i := 0) (by omega) t20.2.2
              subst hr71
              refine lv_istore_n (lv' := [(3, .int (O.2.2.2 j20 0)), (5, .ref a20), (0, .ref h), (1, .int c0), (2, .int sel), (4, .int (nI k))]) hx hb dX1_goUp_74 rfl hl (by decide) rfl (fun ls hl => ?_)
              refine lv_iinc (v := ((nI k) + 1)) (lv' := [(4, .int ((nI k) + 1)), (3, .int (O.2.2.2 j20 0)), (5, .ref a20), (0, .ref h), (1, .int c0), (2, .int sel)]) hx hb dX1_goUp_75 hl (k := 5) rfl rfl (by decide) rfl (fun ls hl => ?_)
              refine lv_goto (tgt := 5) hx hb dX1_goUp_78 (by decide) ?_
              rw [← nI_succ] at hl
              exact ih (k + 1) _ (by omega) (by rw [hu, up_go c13 e20 b33 hf, nI_succ]) _ _ hp hS _ (lv_sub hl [3, 4, 5, 1, 0] rfl)
            · obtain ⟨j50, f50, e50, x50, y50, z50, l50, u50, m50, t50⟩ := tp_some h50
              refine lv_iload_n hx hb dX1_goUp_53 rfl (lv_at hl 3 rfl) ?_
              have hpo := hp
              refine pm_i (va_runV (As := [.ref a50, .int sel]) (rest := []) ⟨hx, hb, hml, hown, hts⟩ (c_X1_findIn l D cI cZ cT ρ h tq th O 0 0 _ sel j50 a50 f50 t50) (cwV 2 hts gX1_goUp_X1_findIn rfl rfl rfl (by decide +kernel) ⟨Nat.le_of_ble_eq_true rfl, Nat.le_of_ble_eq_true rfl⟩) (pre_v ⟨rfl, hp⟩ hKN (recv hKN hp.1 rfl)) rfl rfl hl.1 rfl (lv_room (Nat.le_of_ble_eq_true rfl)) dX1_goUp_54 ⟨Nat.zero_le _, Nat.zero_le _⟩) hS (fun q _ h9 => h9) (fun q h9 => h9) (fun r54 H locs hr54 hz hk hS => ?_)
              replace t20 := tg_h hpo y20 z20 t20 hk
              rcases hr54 with ⟨w54, hr54, hp⟩ | ⟨i54, w54, hr54, hp⟩
              · subst hr54
                have hf : fnd O (O.2.2.2 j20 1) sel = none := fnd_not e50 w54
                refine lv_if_eq (tgt := 68) hx hb dX1_goUp_57 (by decide) (fun _ => ?_) (fun c9 => absurd (by decide) c9)
                refine lv_aload hx hb dX1_goUp_68 (lv_at hl 0 rfl) ?_
                refine lv_iconst (v := 0) hx hb dX1_goUp_70 (by decide) ?_
                have q20 := (cls_tv e20).2
                refine pq_i (va_runVN (As := [.int 0]) (rest := []) ⟨hx, hb, hml, hown, hts⟩ (c_X0_field l D cI cZ cT a20 f20 (O.2.1 j20) (O.2.2.1 j20) (O.2.2.2 j20) _ 0) ⟨va_cnB 1 hts gX1_goUp_X0_field_n37 rfl rfl rfl hKN.2.2.2.2.2.1 (hts (.initialized RX0) (by decide +kernel)) (by decide +kernel) ⟨Nat.le_of_ble_eq_true rfl, Nat.le_of_ble_eq_true rfl⟩, hts (.instanceMethod yX0_field) (by decide +kernel), hts (.selects RX0 yX0_field yX0_field) (by decide +kernel)⟩ (pre_v ⟨rfl, t20⟩ hKN (recv hKN t20.1 rfl)) rfl rfl hl.1 rfl (lv_room (Nat.le_of_ble_eq_true rfl)) dX1_goUp_71 ⟨Nat.zero_le _, Nat.zero_le _⟩) (fun r71 hr71 => ?_)
                have hr71 : r71 = O.2.2.2 j20 0 := by
                  rw [hr71]
                  exact fl1_lt (i := 0) (by omega) t20.2.2
                subst hr71
                refine lv_istore_n (lv' := [(3, .int (O.2.2.2 j20 0)), (5, .ref a20), (0, .ref h), (1, .int c0), (2, .int sel), (4, .int (nI k))]) hx hb dX1_goUp_74 rfl hl (by decide) rfl (fun ls hl => ?_)
                refine lv_iinc (v := ((nI k) + 1)) (lv' := [(4, .int ((nI k) + 1)), (3, .int (O.2.2.2 j20 0)), (5, .ref a20), (0, .ref h), (1, .int c0), (2, .int sel)]) hx hb dX1_goUp_75 hl (k := 5) rfl rfl (by decide) rfl (fun ls hl => ?_)
                refine lv_goto (tgt := 5) hx hb dX1_goUp_78 (by decide) ?_
                rw [← nI_succ] at hl
                exact ih (k + 1) _ (by omega) (by rw [hu, up_go c13 e20 b33 hf, nI_succ]) _ _ hp hS _ (lv_sub hl [3, 4, 5, 1, 0] rfl)
              · subst hr54
                have hf : fnd O (O.2.2.2 j20 1) sel = some (O.2.2.2 j50 (i54 + 1)) := fnd_some e50 w54
                refine lv_if_eq (tgt := 68) hx hb dX1_goUp_57 (by decide) (fun c9 => absurd c9 (by decide)) (fun _ => ?_)
                refine lv_aload_n hx hb dX1_goUp_60 rfl (lv_at hl 1 rfl) ?_
                refine lv_iload_n hx hb dX1_goUp_61 rfl (lv_at hl 4 rfl) ?_
                refine pw_put (ci := 1) (v := .int c9) (ty := .int) (C := RX1) (T := TX1) (N := 3) hx hb hts (iw_X1_goUp_X1) tyX1 tyX1_ok nmX1 hown hK hp.1 hS rfl rfl 2 (by decide) (hts (.fieldLink RX1 19 "MethodBook" "foundClass" "I") (by decide +kernel)) (fun _ h9 => h9) rfl (by decide +kernel) rfl rfl (Nat.le_of_ble_eq_true rfl) dX1_goUp_62 (fun H locs hh hz ho hS => ?_)
                replace hp := px_found (wh' := c9) hp hz ho hh (cls_even e20)
                refine lv_iload hx hb dX1_goUp_65 (lv_at hl 5 rfl) ?_
                refine W.iret (v := (nI k)) hx hb hr (fun t ht hW => ⟨⟨_, rfl, ?_⟩, hS.F ht⟩) hS.2.2 dX1_goUp_67
                rw [ht]
                rw [hu, up_fnd c13 e20 b33 hf]
                exact ⟨rfl, hp⟩
          · refine lv_if_eq (tgt := 42) hx hb dX1_goUp_36 (by decide) (fun c9 => absurd c9 (by decide)) (fun _ => ?_)
            refine lv_bipush (v := (-2)) hx hb dX1_goUp_39 (by decide) ?_
            refine W.iret (v := (-2)) hx hb hr (fun t ht hW => ⟨⟨_, rfl, ?_⟩, hS.F ht⟩) hS.2.2 dX1_goUp_41
            rw [ht]
            rw [hu, up_bad c13 e20 b33]
            exact ⟨rfl, hp⟩
      · refine lv_iconst (v := (-1)) hx hb dX1_goUp_16 (by decide) ?_
        refine W.iret (v := (-1)) hx hb hr (fun t ht hW => ⟨⟨_, rfl, ?_⟩, hS.F ht⟩) hS.2.2 dX1_goUp_17
        rw [ht]
        rw [hu, up_nil c13]
        exact ⟨rfl, hp⟩
  exact loop 100 0 c0 (by omega) rfl _ _ hp hS _ (lv_sub hl [2, 3, 4, 1, 0] rfl)
set_option maxHeartbeats 4000000 in
set_option maxRecDepth 100000 in
theorem c_X1_lookUp (l : Launch) (D : va_G) (cI cZ cT : ClassId) (ρ : Nat → Nat) (h tq : Nat) (th : Nat → Option Nat) (O : Ob) (mt wh : Int32) (H0 : Heap) (c0 sel : Int32) : Met l yX1_lookUp wsX1_lookUp ({ frames := 4, cells := 0, slots := 0, locals := 90 }) (pK D cI cZ cT [.ref h, .int c0, .int sel] (fun H => H = H0 ∧ px D cI cT ρ h tq th O mt wh H0)) (pm_Qi (fun r H1 => r = (lk O c0 sel).1 ∧ px D cI cT ρ h tq th O (lk O c0 sel).2.1 (lk O c0 sel).2.2 H1) (fun q : Nat => q = h)) 0 0 (fun q : Nat => q = h) := by
  refine Met.ofW (cc := cX1_lookUp) (maxL := 3) (ret := (some .int)) (by decide) rfl ?_
  intro p e s m args below meth c s₁ B hml hv
  obtain ⟨rfl, hpic, hKN⟩ := hv
  have hK := hKN.1
  have hx := B.exec
  have hb := B.bytes
  have hr := B.returns
  have hts := atoms_spec (ws := wsX1_lookUp) B.pre
  have hown : s.vm.findClass RX1 = some m.cls := findClass_of_methodNamed B.named
  have hlocks := B.notSynchronized
  obtain ⟨hH, hp⟩ := hpic
  subst hH
  have hS : va_S (fun q : Nat => q = h) s.heap s.heap [] := va_S.rf
  have hl := lv_entry ([.ref h, .int c0, .int sel]) (n := 3) (Nat.le_of_ble_eq_true rfl)
  rw [lg_entry_eq]
  generalize (lg_sl ([.ref h, .int c0, .int sel]) ++ List.replicate (3 - (lg_sl ([.ref h, .int c0, .int sel])).length) Slot.unset).toArray = ls at hl ⊢
  have hl : lv_has ls 3 [(0, .ref h), (1, .int c0), (2, .int sel)] := hl
  refine lv_aload_n hx hb dX1_lookUp_0 rfl (lv_at hl 0 rfl) ?_
  refine lv_iconst (v := 0) hx hb dX1_lookUp_1 (by decide) ?_
  refine pw_put (ci := 1) (v := .int 0) (ty := .int) (C := RX1) (T := TX1) (N := 3) hx hb hts (iw_X1_lookUp_X1) tyX1 tyX1_ok nmX1 hown hK hp.1 hS rfl rfl 1 (by decide) (hts (.fieldLink RX1 15 "MethodBook" "foundMethod" "I") (by decide +kernel)) (fun _ h9 => h9) rfl (by decide +kernel) rfl rfl (Nat.le_of_ble_eq_true rfl) dX1_lookUp_2 (fun H locs hh hz ho hS => ?_)
  replace hp := px_found (mt' := 0) (wh' := wh) hp hz ho hh hp.2.2.2.2.2.1
  refine lv_aload_n hx hb dX1_lookUp_5 rfl (lv_at hl 0 rfl) ?_
  refine lv_iconst (v := 0) hx hb dX1_lookUp_6 (by decide) ?_
  refine pw_put (ci := 1) (v := .int 0) (ty := .int) (C := RX1) (T := TX1) (N := 3) hx hb hts (iw_X1_lookUp_X1) tyX1 tyX1_ok nmX1 hown hK hp.1 hS rfl rfl 2 (by decide) (hts (.fieldLink RX1 19 "MethodBook" "foundClass" "I") (by decide +kernel)) (fun _ h9 => h9) rfl (by decide +kernel) rfl rfl (Nat.le_of_ble_eq_true rfl) dX1_lookUp_7 (fun H locs hh hz ho hS => ?_)
  replace hp := px_found (mt' := 0) (wh' := 0) hp hz ho hh rfl
  refine lv_aload_n hx hb dX1_lookUp_10 rfl (lv_at hl 0 rfl) ?_
  refine lv_iload_n hx hb dX1_lookUp_11 rfl (lv_at hl 1 rfl) ?_
  refine pq_b (va_runV (As := [.int c0]) (rest := []) ⟨hx, hb, hml, hown, hts⟩ (c_X1_isValue l D cI cZ cT ρ h tq th O 0 0 _ c0) (cwV 1 hts gX1_lookUp_X1_isValue rfl rfl rfl (by decide +kernel) ⟨Nat.le_of_ble_eq_true rfl, Nat.le_of_ble_eq_true rfl⟩) (pre_v ⟨rfl, hp⟩ hKN (recv hKN hp.1 rfl)) rfl rfl hl.1 rfl (lv_room (Nat.le_of_ble_eq_true rfl)) dX1_lookUp_12 ⟨Nat.zero_le _, Nat.zero_le _⟩) (fun b12 => ?_) (fun b12 => ?_)
  · refine lv_if_eq (tgt := 26) hx hb dX1_lookUp_15 (by decide) (fun _ => ?_) (fun c9 => absurd (by decide) c9)
    refine lv_bipush (v := (-2)) hx hb dX1_lookUp_26 (by decide) ?_
    refine W.iret (v := (-2)) hx hb hr (fun t ht hW => ⟨⟨_, rfl, ?_⟩, hS.F ht⟩) hS.2.2 dX1_lookUp_28
    rw [ht]
    have e9 : lk O c0 sel = (-2, 0, 0) := by
      unfold lk
      rw [if_neg (by rw [b12]; simp)]
    rw [e9]
    exact ⟨rfl, hp⟩
  · refine lv_if_eq (tgt := 26) hx hb dX1_lookUp_15 (by decide) (fun c9 => absurd c9 (by decide)) (fun _ => ?_)
    refine lv_aload_n hx hb dX1_lookUp_18 rfl (lv_at hl 0 rfl) ?_
    refine lv_iload_n hx hb dX1_lookUp_19 rfl (lv_at hl 2 rfl) ?_
    refine pq_b (va_runV (As := [.int sel]) (rest := []) ⟨hx, hb, hml, hown, hts⟩ (c_X1_isValue l D cI cZ cT ρ h tq th O 0 0 _ sel) (cwV 1 hts gX1_lookUp_X1_isValue rfl rfl rfl (by decide +kernel) ⟨Nat.le_of_ble_eq_true rfl, Nat.le_of_ble_eq_true rfl⟩) (pre_v ⟨rfl, hp⟩ hKN (recv hKN hp.1 rfl)) rfl rfl hl.1 rfl (lv_room (Nat.le_of_ble_eq_true rfl)) dX1_lookUp_20 ⟨Nat.zero_le _, Nat.zero_le _⟩) (fun b20 => ?_) (fun b20 => ?_)
    · refine lv_if_ne (tgt := 29) hx hb dX1_lookUp_23 (by decide) (fun c9 => absurd rfl c9) (fun _ => ?_)
      refine lv_bipush (v := (-2)) hx hb dX1_lookUp_26 (by decide) ?_
      refine W.iret (v := (-2)) hx hb hr (fun t ht hW => ⟨⟨_, rfl, ?_⟩, hS.F ht⟩) hS.2.2 dX1_lookUp_28
      rw [ht]
      have e9 : lk O c0 sel = (-2, 0, 0) := by
        unfold lk
        rw [if_neg (by rw [b20]; simp)]
      rw [e9]
      exact ⟨rfl, hp⟩
    · refine lv_if_ne (tgt := 29) hx hb dX1_lookUp_23 (by decide) (fun _ => ?_) (fun c9 => absurd c9 (by decide))
      refine lv_aload_n hx hb dX1_lookUp_29 rfl (lv_at hl 0 rfl) ?_
      refine lv_iload_n hx hb dX1_lookUp_30 rfl (lv_at hl 1 rfl) ?_
      refine lv_iload_n hx hb dX1_lookUp_31 rfl (lv_at hl 2 rfl) ?_
      refine pm_i (va_runV (As := [.int c0, .int sel]) (rest := []) ⟨hx, hb, hml, hown, hts⟩ (c_X1_goUp l D cI cZ cT ρ h tq th O _ c0 sel) (cwV 2 hts gX1_lookUp_X1_goUp rfl rfl rfl (by decide +kernel) ⟨Nat.le_of_ble_eq_true rfl, Nat.le_of_ble_eq_true rfl⟩) (pre_v ⟨rfl, hp⟩ hKN (recv hKN hp.1 rfl)) rfl rfl hl.1 rfl (lv_room (Nat.le_of_ble_eq_true rfl)) dX1_lookUp_32 ⟨Nat.zero_le _, Nat.zero_le _⟩) hS (fun q _ h9 => h9) (fun q h9 => h9) (fun r32 H locs hr32 hz hk hS => ?_)
      refine W.iret (v := r32) hx hb hr (fun t ht hW => ⟨⟨_, rfl, ?_⟩, hS.F ht⟩) hS.2.2 dX1_lookUp_35
      rw [ht]
      have e9 : lk O c0 sel = up O sel 100 c0 0 := by
        unfold lk
        rw [if_pos ⟨b12, b20⟩]
      rw [e9]
      exact hr32
set_option maxHeartbeats 4000000 in
set_option maxRecDepth 100000 in
theorem c_X1_above (l : Launch) (D : va_G) (cI cZ cT : ClassId) (ρ : Nat → Nat) (h tq : Nat) (th : Nat → Option Nat) (O : Ob) (mt wh : Int32) (H0 : Heap) (sel : Int32) : Met l yX1_above wsX1_above ({ frames := 5, cells := 0, slots := 0, locals := 112 }) (pK D cI cZ cT [.ref h, .int sel] (fun H => H = H0 ∧ px D cI cT ρ h tq th O mt wh H0)) (pm_Qi (fun r H1 => r = (abv O mt wh sel).1 ∧ px D cI cT ρ h tq th O (abv O mt wh sel).2.1 (abv O mt wh sel).2.2 H1) (fun q : Nat => q = h)) 0 0 (fun q : Nat => q = h) := by
  refine Met.ofW (cc := cX1_above) (maxL := 2) (ret := (some .int)) (by decide) rfl ?_
  intro p e s m args below meth c s₁ B hml hv
  obtain ⟨rfl, hpic, hKN⟩ := hv
  have hK := hKN.1
  have hx := B.exec
  have hb := B.bytes
  have hr := B.returns
  have hts := atoms_spec (ws := wsX1_above) B.pre
  have hown : s.vm.findClass RX1 = some m.cls := findClass_of_methodNamed B.named
  have hlocks := B.notSynchronized
  obtain ⟨hH, hp⟩ := hpic
  subst hH
  have hS : va_S (fun q : Nat => q = h) s.heap s.heap [] := va_S.rf
  have hl := lv_entry ([.ref h, .int sel]) (n := 2) (Nat.le_of_ble_eq_true rfl)
  rw [lg_entry_eq]
  generalize (lg_sl ([.ref h, .int sel]) ++ List.replicate (2 - (lg_sl ([.ref h, .int sel])).length) Slot.unset).toArray = ls at hl ⊢
  have hl : lv_has ls 2 [(0, .ref h), (1, .int sel)] := hl
  refine lv_aload_n hx hb dX1_above_0 rfl (lv_at hl 0 rfl) ?_
  refine va_get (D := D) (ci := 1) (v := .int wh) (C := RX1) (T := TX1) (N := 3) hx hb hts (iw_X1_above_X1) hown hK (one hp.1) 0 rfl rfl 2 (by decide) (hts (.fieldLink RX1 19 "MethodBook" "foundClass" "I") (by decide +kernel)) (fun _ h9 => h9) rfl dX1_above_1 ?_
  refine lv_if_ne (tgt := 9) hx hb dX1_above_4 (by decide) (fun c4 => ?_) (fun c4 => ?_)
  · refine lv_aload_n hx hb dX1_above_9 rfl (lv_at hl 0 rfl) ?_
    refine lv_aload_n hx hb dX1_above_10 rfl (lv_at hl 0 rfl) ?_
    refine lv_aload_n hx hb dX1_above_11 rfl (lv_at hl 0 rfl) ?_
    refine va_get (D := D) (ci := 1) (v := .int wh) (C := RX1) (T := TX1) (N := 3) hx hb hts (iw_X1_above_X1) hown hK (one hp.1) 0 rfl rfl 2 (by decide) (hts (.fieldLink RX1 19 "MethodBook" "foundClass" "I") (by decide +kernel)) (fun _ h9 => h9) rfl dX1_above_12 ?_
    refine pq_i (va_runS (As := [.int wh]) (rest := [.ref h, .ref h]) ⟨hx, hb, hml, hown, hts⟩ (c_X1_objectNumber l D cI cZ cT wh) (va_cwS 1 hts gX1_above_X1_objectNumber rfl rfl rfl (by decide +kernel) ⟨Nat.le_of_ble_eq_true rfl, Nat.le_of_ble_eq_true rfl⟩) (pre_s trivial hKN) rfl rfl hl.1 rfl (lv_room (Nat.le_of_ble_eq_true rfl)) dX1_above_15 ⟨Nat.zero_le _, Nat.zero_le _⟩) (fun r15 hr15 => ?_)
    refine lv_iconst (v := 0) hx hb dX1_above_18 (by decide) ?_
    refine pq_i (va_runV (As := [.int r15, .int 0]) (rest := [.ref h]) ⟨hx, hb, hml, hown, hts⟩ (c_X1_get l D cI cZ cT ρ h tq th O mt wh _ r15 0) (cwV 2 hts gX1_above_X1_get rfl rfl rfl (by decide +kernel) ⟨Nat.le_of_ble_eq_true rfl, Nat.le_of_ble_eq_true rfl⟩) (pre_v ⟨rfl, hp⟩ hKN (recv hKN hp.1 rfl)) rfl rfl hl.1 rfl (lv_room (Nat.le_of_ble_eq_true rfl)) dX1_above_19 ⟨Nat.zero_le _, Nat.zero_le _⟩) (fun r19 hr19 => ?_)
    refine lv_iload_n hx hb dX1_above_22 rfl (lv_at hl 1 rfl) ?_
    refine pm_i (va_runV (As := [.int r19, .int sel]) (rest := []) ⟨hx, hb, hml, hown, hts⟩ (c_X1_lookUp l D cI cZ cT ρ h tq th O mt wh _ r19 sel) (cwV 2 hts gX1_above_X1_lookUp rfl rfl rfl (by decide +kernel) ⟨Nat.le_of_ble_eq_true rfl, Nat.le_of_ble_eq_true rfl⟩) (pre_v ⟨rfl, hp⟩ hKN (recv hKN hp.1 rfl)) rfl rfl hl.1 rfl (lv_room (Nat.le_of_ble_eq_true rfl)) dX1_above_23 ⟨Nat.zero_le _, Nat.zero_le _⟩) hS (fun q _ h9 => h9) (fun q h9 => h9) (fun r23 H locs hr23 hz hk hS => ?_)
    refine W.iret (v := r23) hx hb hr (fun t ht hW => ⟨⟨_, rfl, ?_⟩, hS.F ht⟩) hS.2.2 dX1_above_26
    rw [ht]
    have e9 : abv O mt wh sel = lk O r19 sel := by
      unfold abv
      rw [if_neg c4, hr19]
      unfold fab gto tk
      rw [hr15, tv_even hp.2.2.2.2.2.1]
    rw [e9]
    exact hr23
  · refine lv_iconst (v := (-1)) hx hb dX1_above_7 (by decide) ?_
    refine W.iret (v := (-1)) hx hb hr (fun t ht hW => ⟨⟨_, rfl, ?_⟩, hS.F ht⟩) hS.2.2 dX1_above_8
    rw [ht]
    have e9 : abv O mt wh sel = (-1, mt, wh) := by
      unfold abv
      rw [if_pos c4]
    rw [e9]
    exact ⟨rfl, hp⟩
end
section
theorem iw_X1_put_X1 : ∀ w ∈ wsX10, w ∈ wsX1_put := by decide +kernel
theorem iw_X1_put_X0 : ∀ w ∈ wsX00, w ∈ wsX1_put := by decide +kernel
theorem iw_X1_inherits_X1 : ∀ w ∈ wsX10, w ∈ wsX1_inherits := by decide +kernel
theorem iw_X1_inherits_X0 : ∀ w ∈ wsX00, w ∈ wsX1_inherits := by decide +kernel
theorem iw_X1_users_X1 : ∀ w ∈ wsX10, w ∈ wsX1_users := by decide +kernel
theorem iw_X1_users_X0 : ∀ w ∈ wsX00, w ∈ wsX1_users := by decide +kernel
theorem iw_X1_senders_X1 : ∀ w ∈ wsX10, w ∈ wsX1_senders := by decide +kernel
theorem iw_X1_senders_X0 : ∀ w ∈ wsX00, w ∈ wsX1_senders := by decide +kernel
theorem iw_X1_become_X1 : ∀ w ∈ wsX10, w ∈ wsX1_become := by decide +kernel
theorem iw_X1_become_X0 : ∀ w ∈ wsX00, w ∈ wsX1_become := by decide +kernel
theorem nar_b (b : Bool) : narrow .boolean (.int (b2i b)) = .int (b2i b) := by cases b <;> rfl
theorem pto_none {O : Ob} {k i v : Int32} (h : tk O k = none) : pto O k i v = (0, O) := by
  unfold pto
  rw [h]
theorem pto_no {O : Ob} {k i v : Int32} {j : Nat} (h : tk O k = some j) (h2 : ¬ (isV O v = true ∧ 0 ≤ i.toInt ∧ i.toInt < O.2.2.1 j)) : pto O k i v = (0, O) := by
  simp only [pto, h, if_neg h2]
theorem pto_yes {O : Ob} {k i v : Int32} {j : Nat} (h : tk O k = some j) (h2 : isV O v = true ∧ 0 ≤ i.toInt ∧ i.toInt < O.2.2.1 j) : pto O k i v = (1, obf O j (upd (O.2.2.2 j) i.toNatClampNeg v)) := by
  simp only [pto, h, if_pos h2]
theorem obf_self (O : Ob) (j : Nat) : obf O j (O.2.2.2 j) = O := by
  have e : va_up O.2.2.2 j (O.2.2.2 j) = O.2.2.2 := by
    funext k
    by_cases hk : k = j
    · rw [hk, va_up_self]
    · rw [va_up_ne _ _ hk]
  show (O.1, O.2.1, O.2.2.1, va_up O.2.2.2 j (O.2.2.2 j)) = O
  rw [e]
theorem inh_eq {O : Ob} {d x : Int32} {q : Nat} (h : x = d) : inh O d (q + 1) x = true := by
  rw [inh, if_pos h]
theorem inh_none {O : Ob} {d x : Int32} {q : Nat} (h : ¬ x = d) (h2 : cls O x = none) : inh O d (q + 1) x = false := by
  rw [inh, if_neg h, h2]
theorem inh_go {O : Ob} {d x : Int32} {q j : Nat} (h : ¬ x = d) (h2 : cls O x = some j) : inh O d (q + 1) x = inh O d q (O.2.2.2 j 0) := by
  rw [inh, if_neg h, h2]
theorem inhs_go {O : Ob} {c d : Int32} (h : isV O c = true) (h2 : ¬ d = 0) : inhs O c d = inh O d 100 c := by
  unfold inhs
  rw [h, decide_eq_false h2]
  rfl
theorem tk_none {O : Ob} {k : Nat} (h : tk O (nI k) = none) (h1 : 1 ≤ k) (h2 : k ≤ 400) : O.1 k = false := by
  unfold tk tz at h
  rw [nI_toInt (by omega)] at h
  split at h
  · cases h
  · rename_i hc
    cases hm : O.1 k
    · rfl
    · exact absurd ⟨by omega, by omega, hm⟩ hc
theorem tk_some {O : Ob} {k j : Nat} (h : tk O (nI k) = some j) (h2 : k ≤ 400) : j = k ∧ O.1 k = true := by
  obtain ⟨a1, a2, a3, a4⟩ := tz_some h
  rw [nI_toInt (by omega)] at a3
  have e : j = k := a3
  subst e
  exact ⟨rfl, a4⟩
theorem cnt_t {p : Nat → Bool} {k : Nat} (h : p (k + 1) = true) : cnt p k + 1 = cnt p (k + 1) := by
  rw [cnt, h]
  rfl
theorem cnt_f {p : Nat → Bool} {k : Nat} (h : p (k + 1) = false) : cnt p k = cnt p (k + 1) := by
  rw [cnt, h]
  exact (Int32.add_zero _).symm
theorem xo_step {O : Ob} {x y : Int32} {k : Nat} (h : O.1 (k + 1) = true) : obf (xo O x y k) (k + 1) (swf ((xo O x y k).2.2.2 (k + 1)) x y (O.2.2.1 (k + 1))) = xo O x y (k + 1) := by
  have e0 : (xo O x y k).2.2.2 (k + 1) = O.2.2.2 (k + 1) := by
    show (if _ then _ else _) = _
    rw [if_neg (by omega)]
  have e : va_up (xo O x y k).2.2.2 (k + 1) (swf (O.2.2.2 (k + 1)) x y (O.2.2.1 (k + 1))) = (xo O x y (k + 1)).2.2.2 := by
    funext j
    by_cases hj : j = k + 1
    · rw [hj, va_up_self]
      show _ = (if _ then _ else _)
      rw [if_pos ⟨by omega, Nat.le_refl _, h⟩]
    · rw [va_up_ne _ _ hj]
      show (if _ then _ else _) = (if _ then _ else _)
      by_cases hc : 1 ≤ j ∧ j ≤ k ∧ O.1 j = true
      · rw [if_pos hc, if_pos ⟨hc.1, by omega, hc.2.2⟩]
      · rw [if_neg hc, if_neg (fun q => hc ⟨q.1, by omega, q.2.2⟩)]
  rw [e0]
  show (O.1, O.2.1, O.2.2.1, va_up (xo O x y k).2.2.2 (k + 1) _) = (O.1, O.2.1, O.2.2.1, (xo O x y (k + 1)).2.2.2)
  rw [e]
theorem xo_same {O : Ob} {x y : Int32} {k : Nat} (h : O.1 (k + 1) = false) : xo O x y k = xo O x y (k + 1) := by
  have e : (xo O x y k).2.2.2 = (xo O x y (k + 1)).2.2.2 := by
    funext j
    show (if _ then _ else _) = (if _ then _ else _)
    by_cases hc : 1 ≤ j ∧ j ≤ k ∧ O.1 j = true
    · rw [if_pos hc, if_pos ⟨hc.1, by omega, hc.2.2⟩]
    · rw [if_neg hc, if_neg (fun q => hc ⟨q.1, by
        have : j ≠ k + 1 := fun e => by rw [e, h] at q; exact absurd q.2.2 (by decide)
        omega, q.2.2⟩)]
  show (O.1, O.2.1, O.2.2.1, (xo O x y k).2.2.2) = (O.1, O.2.1, O.2.2.1, (xo O x y (k + 1)).2.2.2)
  rw [e]
theorem xo_0 (O : Ob) (x y : Int32) : xo O x y 0 = O := by
  have e : (xo O x y 0).2.2.2 = O.2.2.2 := by
    funext j
    show (if _ then _ else _) = _
    rw [if_neg (by omega)]
  show (O.1, O.2.1, O.2.2.1, (xo O x y 0).2.2.2) = O
  rw [e]
theorem xt_t {O : Ob} {x y : Int32} {k : Nat} (h : O.1 (k + 1) = true) : xt O x y k + xcn ((xo O x y k).2.2.2 (k + 1)) x y (O.2.2.1 (k + 1)) = xt O x y (k + 1) := by
  have e0 : (xo O x y k).2.2.2 (k + 1) = O.2.2.2 (k + 1) := by
    show (if _ then _ else _) = _
    rw [if_neg (by omega)]
  rw [e0, xt, if_pos h]
theorem xt_f {O : Ob} {x y : Int32} {k : Nat} (h : O.1 (k + 1) = false) : xt O x y k = xt O x y (k + 1) := by
  rw [xt, if_neg (by rw [h]; decide)]
  exact (Int32.add_zero _).symm
set_option maxHeartbeats 4000000 in
set_option maxRecDepth 100000 in
theorem c_X1_put (l : Launch) (D : va_G) (cI cZ cT : ClassId) (ρ : Nat → Nat) (h tq : Nat) (th : Nat → Option Nat) (O : Ob) (mt wh : Int32) (H0 : Heap) (k i v : Int32) : Met l yX1_put wsX1_put ({ frames := 3, cells := 0, slots := 0, locals := 63 }) (pK D cI cZ cT [.ref h, .int k, .int i, .int v] (fun H => H = H0 ∧ px D cI cT ρ h tq th O mt wh H0)) (pm_Qi (fun r H1 => r = (pto O k i v).1 ∧ px D cI cT ρ h tq th (pto O k i v).2 mt wh H1) (fun q : Nat => ρ q ≠ 0)) 0 0 (fun q : Nat => ρ q ≠ 0) := by
  refine Met.ofW (cc := cX1_put) (maxL := 5) (ret := (some .boolean)) (by decide) rfl ?_
  intro p e s m args below meth c s₁ B hml hv
  obtain ⟨rfl, hpic, hKN⟩ := hv
  have hK := hKN.1
  have hx := B.exec
  have hb := B.bytes
  have hr := B.returns
  have hts := atoms_spec (ws := wsX1_put) B.pre
  have hown : s.vm.findClass RX1 = some m.cls := findClass_of_methodNamed B.named
  have hlocks := B.notSynchronized
  obtain ⟨hH, hp⟩ := hpic
  subst hH
  have hS : va_S (fun q : Nat => ρ q ≠ 0) s.heap s.heap [] := va_S.rf
  have hl := lv_entry ([.ref h, .int k, .int i, .int v]) (n := 5) (Nat.le_of_ble_eq_true rfl)
  rw [lg_entry_eq]
  generalize (lg_sl ([.ref h, .int k, .int i, .int v]) ++ List.replicate (5 - (lg_sl ([.ref h, .int k, .int i, .int v])).length) Slot.unset).toArray = ls at hl ⊢
  have hl : lv_has ls 5 [(0, .ref h), (1, .int k), (2, .int i), (3, .int v)] := hl
  refine lv_aload_n hx hb dX1_put_0 rfl (lv_at hl 0 rfl) ?_
  refine lv_iload_n hx hb dX1_put_1 rfl (lv_at hl 1 rfl) ?_
  refine pq_q (va_runV (As := [.int k]) (rest := []) ⟨hx, hb, hml, hown, hts⟩ (c_X1_thingOf l D cI cZ cT ρ h tq th O mt wh _ k) (cwV 1 hts gX1_put_X1_thingOf rfl rfl rfl (by decide +kernel) ⟨Nat.le_of_ble_eq_true rfl, Nat.le_of_ble_eq_true rfl⟩) (pre_v ⟨rfl, hp⟩ hKN (recv hKN hp.1 rfl)) rfl rfl hl.1 rfl (lv_room (Nat.le_of_ble_eq_true rfl)) dX1_put_2 ⟨Nat.zero_le _, Nat.zero_le _⟩) (fun h2 => ?_) (fun a2 h2 => ?_)
  · have e2 := tp_none h2
    refine lv_astoreN (lv' := [(4, .null), (0, .ref h), (1, .int k), (2, .int i), (3, .int v)]) hx hb dX1_put_5 hl (by decide) rfl (fun ls hl => ?_)
    refine lv_aloadN hx hb dX1_put_7 (lv_at hl 0 rfl) ?_
    refine lv_ifnullN (tgt := 20) hx hb dX1_put_9 (by decide) ?_
    refine lv_iconst (v := 0) hx hb dX1_put_20 (by decide) ?_
    refine W.zret (v := 0) (ty := .boolean) hx hb hr rfl (fun t ht hW => ⟨⟨_, rfl, ?_⟩, hS.F ht⟩) hS.2.2 dX1_put_21
    rw [ht]
    rw [pto_none e2]
    exact ⟨rfl, hp⟩
  · obtain ⟨j2, f2, e2, x2, y2, z2, l2, u2, m2, t2⟩ := tp_some h2
    refine lv_astore (lv' := [(4, .ref a2), (0, .ref h), (1, .int k), (2, .int i), (3, .int v)]) hx hb dX1_put_5 hl (by decide) rfl (fun ls hl => ?_)
    refine lv_aload hx hb dX1_put_7 (lv_at hl 0 rfl) ?_
    refine lv_ifnull hx hb dX1_put_9 ?_
    refine lv_aload_n hx hb dX1_put_12 rfl (lv_at hl 1 rfl) ?_
    refine lv_iload_n hx hb dX1_put_13 rfl (lv_at hl 4 rfl) ?_
    refine pq_b (va_runV (As := [.int v]) (rest := []) ⟨hx, hb, hml, hown, hts⟩ (c_X1_isValue l D cI cZ cT ρ h tq th O mt wh _ v) (cwV 1 hts gX1_put_X1_isValue rfl rfl rfl (by decide +kernel) ⟨Nat.le_of_ble_eq_true rfl, Nat.le_of_ble_eq_true rfl⟩) (pre_v ⟨rfl, hp⟩ hKN (recv hKN hp.1 rfl)) rfl rfl hl.1 rfl (lv_room (Nat.le_of_ble_eq_true rfl)) dX1_put_14 ⟨Nat.zero_le _, Nat.zero_le _⟩) (fun b14 => ?_) (fun b14 => ?_)
    · refine lv_if_ne (tgt := 22) hx hb dX1_put_17 (by decide) (fun c9 => absurd rfl c9) (fun _ => ?_)
      refine lv_iconst (v := 0) hx hb dX1_put_20 (by decide) ?_
      refine W.zret (v := 0) (ty := .boolean) hx hb hr rfl (fun t ht hW => ⟨⟨_, rfl, ?_⟩, hS.F ht⟩) hS.2.2 dX1_put_21
      rw [ht]
      rw [pto_no e2 (by rw [b14]; simp)]
      exact ⟨rfl, hp⟩
    · refine lv_if_ne (tgt := 22) hx hb dX1_put_17 (by decide) (fun _ => ?_) (fun c9 => absurd c9 (by decide))
      refine lv_aload hx hb dX1_put_22 (lv_at hl 0 rfl) ?_
      refine lv_iload_n hx hb dX1_put_24 rfl (lv_at hl 3 rfl) ?_
      refine lv_iload_n hx hb dX1_put_25 rfl (lv_at hl 4 rfl) ?_
      refine pm_i (va_runVN (As := [.int i, .int v]) (rest := []) ⟨hx, hb, hml, hown, hts⟩ (c_X0_setField l D cI cZ cT a2 f2 (O.2.1 j2) (O.2.2.1 j2) (O.2.2.2 j2) _ i v) ⟨va_cnB 2 hts gX1_put_X0_setField_n33 rfl rfl rfl hKN.2.2.2.2.1 (hts (.initialized RX0) (by decide +kernel)) (by decide +kernel) ⟨Nat.le_of_ble_eq_true rfl, Nat.le_of_ble_eq_true rfl⟩, hts (.instanceMethod yX0_setField) (by decide +kernel), hts (.selects RX0 yX0_setField yX0_setField) (by decide +kernel)⟩ (pre_v ⟨rfl, t2⟩ hKN (recv hKN t2.1 rfl)) rfl rfl hl.1 rfl (lv_room (Nat.le_of_ble_eq_true rfl)) dX1_put_26 ⟨Nat.zero_le _, Nat.zero_le _⟩) hS (fun q _ h9 => by show ρ q ≠ 0; rw [show q = f2 from h9, z2]; omega) (fun q h9 => by show ρ q ≠ 0; rw [show q = f2 from h9, z2]; omega) (fun r26 H locs hr26 hz hk hS => ?_)
      obtain ⟨e26, hf⟩ := hr26
      subst e26
      refine W.zret (v := (b2i (decide (0 ≤ i.toInt ∧ i.toInt < (O.2.2.1 j2 : Int))))) (ty := .boolean) hx hb hr (nar_b _) (fun t ht hW => ⟨⟨_, rfl, ?_⟩, hS.F ht⟩) hS.2.2 dX1_put_29
      rw [ht]
      by_cases hin : 0 ≤ i.toInt ∧ i.toInt < (O.2.2.1 j2 : Int)
      · rw [if_pos hin] at hf
        rw [pto_yes e2 ⟨b14, hin.1, hin.2⟩, decide_eq_true hin]
        exact ⟨rfl, px_fields hp x2 z2 t2 hz hk hf⟩
      · rw [if_neg hin] at hf
        rw [pto_no e2 (fun q => hin q.2), decide_eq_false hin]
        have h9 := px_fields hp x2 z2 t2 hz hk hf
        rw [obf_self] at h9
        exact ⟨rfl, h9⟩
set_option maxHeartbeats 4000000 in
set_option maxRecDepth 100000 in
theorem c_X1_inherits (l : Launch) (D : va_G) (cI cZ cT : ClassId) (ρ : Nat → Nat) (h tq : Nat) (th : Nat → Option Nat) (O : Ob) (mt wh : Int32) (H0 : Heap) (c0 d : Int32) : Met l yX1_inherits wsX1_inherits ({ frames := 3, cells := 0, slots := 0, locals := 64 }) (pK D cI cZ cT [.ref h, .int c0, .int d] (fun H => H = H0 ∧ px D cI cT ρ h tq th O mt wh H0)) (vp_Si (fun r => r = b2i (inhs O c0 d))) 0 0 (fun _ => False) := by
  refine Met.ofW (cc := cX1_inherits) (maxL := 6) (ret := (some .boolean)) (by decide) rfl ?_
  intro p e s m args below meth c s₁ B hml hv
  obtain ⟨rfl, hpic, hKN⟩ := hv
  have hK := hKN.1
  have hx := B.exec
  have hb := B.bytes
  have hr := B.returns
  have hts := atoms_spec (ws := wsX1_inherits) B.pre
  have hown : s.vm.findClass RX1 = some m.cls := findClass_of_methodNamed B.named
  have hlocks := B.notSynchronized
  obtain ⟨hH, hp⟩ := hpic
  subst hH
  have hl := lv_entry ([.ref h, .int c0, .int d]) (n := 6) (Nat.le_of_ble_eq_true rfl)
  rw [lg_entry_eq]
  generalize (lg_sl ([.ref h, .int c0, .int d]) ++ List.replicate (6 - (lg_sl ([.ref h, .int c0, .int d])).length) Slot.unset).toArray = ls at hl ⊢
  have hl : lv_has ls 6 [(0, .ref h), (1, .int c0), (2, .int d)] := hl
  refine lv_aload_n hx hb dX1_inherits_0 rfl (lv_at hl 0 rfl) ?_
  refine lv_iload_n hx hb dX1_inherits_1 rfl (lv_at hl 1 rfl) ?_
  refine pq_b (va_runV (As := [.int c0]) (rest := []) ⟨hx, hb, hml, hown, hts⟩ (c_X1_isValue l D cI cZ cT ρ h tq th O mt wh _ c0) (cwV 1 hts gX1_inherits_X1_isValue rfl rfl rfl (by decide +kernel) ⟨Nat.le_of_ble_eq_true rfl, Nat.le_of_ble_eq_true rfl⟩) (pre_v ⟨rfl, hp⟩ hKN (recv hKN hp.1 rfl)) rfl rfl hl.1 rfl (lv_room (Nat.le_of_ble_eq_true rfl)) dX1_inherits_2 ⟨Nat.zero_le _, Nat.zero_le _⟩) (fun b2 => ?_) (fun b2 => ?_)
  · refine lv_if_eq (tgt := 12) hx hb dX1_inherits_5 (by decide) (fun _ => ?_) (fun c9 => absurd (by decide) c9)
    refine lv_iconst (v := 0) hx hb dX1_inherits_12 (by decide) ?_
    refine W.zret (v := 0) (ty := .boolean) hx hb hr rfl (fun t ht hW => ⟨_, rfl, ?_, ht⟩) (fun _ h => absurd h List.not_mem_nil) dX1_inherits_13
    unfold inhs
    rw [b2]
    rfl
  · refine lv_if_eq (tgt := 12) hx hb dX1_inherits_5 (by decide) (fun c9 => absurd c9 (by decide)) (fun _ => ?_)
    refine lv_iload_n hx hb dX1_inherits_8 rfl (lv_at hl 2 rfl) ?_
    refine lv_if_ne (tgt := 14) hx hb dX1_inherits_9 (by decide) (fun c9 => ?_) (fun c9 => ?_)
    · refine lv_iload_n hx hb dX1_inherits_14 rfl (lv_at hl 1 rfl) ?_
      refine lv_istore_n (lv' := [(3, .int c0), (0, .ref h), (1, .int c0), (2, .int d)]) hx hb dX1_inherits_15 rfl hl (by decide) rfl (fun ls hl => ?_)
      refine lv_iconst (v := 0) hx hb dX1_inherits_16 (by decide) ?_
      refine lv_istore (lv' := [(4, .int 0), (3, .int c0), (0, .ref h), (1, .int c0), (2, .int d)]) hx hb dX1_inherits_17 hl (by decide) rfl (fun ls hl => ?_)
      have loop : ∀ (q k : Nat) (x : Int32), k + q = 100 → inhs O c0 d = inh O d q x → ∀ ls : Array Slot, lv_has ls 6 [(0, .ref h), (1, .int c0), (2, .int d), (3, .int x), (4, .int (nI k))] → W p l e (headSpec wsX1_inherits ({ frames := 3, cells := 0, slots := 0, locals := 64 })).room s m ([.ref h, .int c0, .int d] : List Value).toArray below meth c s.heap [] 0 0 (MQ below (vp_Si (fun r => r = b2i (inhs O c0 d))) ([.ref h, .int c0, .int d] : List Value).toArray s 0 0 (fun _ => False)) (F0 m 19 ls []) := by
        intro q
        induction q with
        | zero =>
          intro k x h1 hu ls hl
          refine lv_iload hx hb dX1_inherits_19 (lv_at hl 4 rfl) ?_
          refine lv_bipush (v := 100) hx hb dX1_inherits_21 (by decide) ?_
          refine lv_icmp_ge (tgt := 60) hx hb dX1_inherits_23 (by decide) (fun _ => ?_) (fun c9 => absurd (by rw [i_le, i_100, nI_toInt (by omega)]; omega) c9)
          refine lv_iconst (v := 0) hx hb dX1_inherits_60 (by decide) ?_
          refine W.zret (v := 0) (ty := .boolean) hx hb hr rfl (fun t ht hW => ⟨_, rfl, ?_, ht⟩) (fun _ h => absurd h List.not_mem_nil) dX1_inherits_61
          rw [hu]
          rfl
        | succ q ih =>
          intro k x h1 hu ls hl
          refine lv_iload hx hb dX1_inherits_19 (lv_at hl 4 rfl) ?_
          refine lv_bipush (v := 100) hx hb dX1_inherits_21 (by decide) ?_
          refine lv_icmp_ge (tgt := 60) hx hb dX1_inherits_23 (by decide) (fun c9 => absurd c9 (by rw [i_le, i_100, nI_toInt (by omega)]; omega)) (fun _ => ?_)
          refine lv_iload_n hx hb dX1_inherits_26 rfl (lv_at hl 3 rfl) ?_
          refine lv_iload_n hx hb dX1_inherits_27 rfl (lv_at hl 2 rfl) ?_
          refine lv_icmp_ne (tgt := 33) hx hb dX1_inherits_28 (by decide) (fun c28 => ?_) (fun c28 => ?_)
          · refine lv_aload_n hx hb dX1_inherits_33 rfl (lv_at hl 0 rfl) ?_
            refine lv_iload_n hx hb dX1_inherits_34 rfl (lv_at hl 3 rfl) ?_
            refine pq_q (va_runV (As := [.int x]) (rest := []) ⟨hx, hb, hml, hown, hts⟩ (c_X1_classMeantBy l D cI cZ cT ρ h tq th O mt wh _ x) (cwV 1 hts gX1_inherits_X1_classMeantBy rfl rfl rfl (by decide +kernel) ⟨Nat.le_of_ble_eq_true rfl, Nat.le_of_ble_eq_true rfl⟩) (pre_v ⟨rfl, hp⟩ hKN (recv hKN hp.1 rfl)) rfl rfl hl.1 rfl (lv_room (Nat.le_of_ble_eq_true rfl)) dX1_inherits_35 ⟨Nat.zero_le _, Nat.zero_le _⟩) (fun h35 => ?_) (fun a35 h35 => ?_)
            · have e35 := tp_none h35
              refine lv_astoreN (lv' := [(5, .null), (0, .ref h), (1, .int c0), (2, .int d), (3, .int x), (4, .int (nI k))]) hx hb dX1_inherits_38 hl (by decide) rfl (fun ls hl => ?_)
              refine lv_aloadN hx hb dX1_inherits_40 (lv_at hl 0 rfl) ?_
              refine lv_ifnonnullN hx hb dX1_inherits_42 ?_
              refine lv_iconst (v := 0) hx hb dX1_inherits_45 (by decide) ?_
              refine W.zret (v := 0) (ty := .boolean) hx hb hr rfl (fun t ht hW => ⟨_, rfl, ?_, ht⟩) (fun _ h => absurd h List.not_mem_nil) dX1_inherits_46
              rw [hu, inh_none c28 e35]
              rfl
            · obtain ⟨j35, f35, e35, x35, y35, z35, l35, u35, m35, t35⟩ := tp_some h35
              refine lv_astore (lv' := [(5, .ref a35), (0, .ref h), (1, .int c0), (2, .int d), (3, .int x), (4, .int (nI k))]) hx hb dX1_inherits_38 hl (by decide) rfl (fun ls hl => ?_)
              refine lv_aload hx hb dX1_inherits_40 (lv_at hl 0 rfl) ?_
              refine lv_ifnonnull (tgt := 47) hx hb dX1_inherits_42 (by decide) ?_
              refine lv_aload hx hb dX1_inherits_47 (lv_at hl 0 rfl) ?_
              refine lv_iconst (v := 0) hx hb dX1_inherits_49 (by decide) ?_
              have q35 := (cls_tv e35).2
              refine pq_i (va_runVN (As := [.int 0]) (rest := []) ⟨hx, hb, hml, hown, hts⟩ (c_X0_field l D cI cZ cT a35 f35 (O.2.1 j35) (O.2.2.1 j35) (O.2.2.2 j35) _ 0) ⟨va_cnB 1 hts gX1_inherits_X0_field_n37 rfl rfl rfl hKN.2.2.2.2.2.1 (hts (.initialized RX0) (by decide +kernel)) (by decide +kernel) ⟨Nat.le_of_ble_eq_true rfl, Nat.le_of_ble_eq_true rfl⟩, hts (.instanceMethod yX0_field) (by decide +kernel), hts (.selects RX0 yX0_field yX0_field) (by decide +kernel)⟩ (pre_v ⟨rfl, t35⟩ hKN (recv hKN t35.1 rfl)) rfl rfl hl.1 rfl (lv_room (Nat.le_of_ble_eq_true rfl)) dX1_inherits_50 ⟨Nat.zero_le _, Nat.zero_le _⟩) (fun r50 hr50 => ?_)
              have hr50 : r50 = O.2.2.2 j35 0 := by
                rw [hr50]
                exact fl1_lt (i := 0) (by omega) t35.2.2
              subst hr50
              refine lv_istore_n (lv' := [(3, .int (O.2.2.2 j35 0)), (5, .ref a35), (0, .ref h), (1, .int c0), (2, .int d), (4, .int (nI k))]) hx hb dX1_inherits_53 rfl hl (by decide) rfl (fun ls hl => ?_)
              refine lv_iinc (v := ((nI k) + 1)) (lv' := [(4, .int ((nI k) + 1)), (3, .int (O.2.2.2 j35 0)), (5, .ref a35), (0, .ref h), (1, .int c0), (2, .int d)]) hx hb dX1_inherits_54 hl (k := 5) rfl rfl (by decide) rfl (fun ls hl => ?_)
              refine lv_goto (tgt := 19) hx hb dX1_inherits_57 (by decide) ?_
              rw [← nI_succ] at hl
              exact ih (k + 1) _ (by omega) (by rw [hu, inh_go c28 e35]) _ (lv_sub hl [3, 4, 5, 1, 0] rfl)
          · refine lv_iconst (v := 1) hx hb dX1_inherits_31 (by decide) ?_
            refine W.zret (v := 1) (ty := .boolean) hx hb hr rfl (fun t ht hW => ⟨_, rfl, ?_, ht⟩) (fun _ h => absurd h List.not_mem_nil) dX1_inherits_32
            rw [hu, inh_eq c28]
            rfl
      exact loop 100 0 c0 (by omega) (inhs_go b2 c9) _ (lv_sub hl [2, 3, 4, 1, 0] rfl)
    · refine lv_iconst (v := 0) hx hb dX1_inherits_12 (by decide) ?_
      refine W.zret (v := 0) (ty := .boolean) hx hb hr rfl (fun t ht hW => ⟨_, rfl, ?_, ht⟩) (fun _ h => absurd h List.not_mem_nil) dX1_inherits_13
      unfold inhs
      rw [decide_eq_true c9, Bool.not_true, Bool.and_false]
      rfl
set_option maxHeartbeats 4000000 in
set_option maxRecDepth 100000 in
theorem c_X1_users (l : Launch) (D : va_G) (cI cZ cT : ClassId) (ρ : Nat → Nat) (h tq : Nat) (th : Nat → Option Nat) (O : Ob) (mt wh : Int32) (H0 : Heap) (d : Int32) : Met l yX1_users wsX1_users ({ frames := 2, cells := 0, slots := 0, locals := 42 }) (pK D cI cZ cT [.ref h, .int d] (fun H => H = H0 ∧ px D cI cT ρ h tq th O mt wh H0)) (vp_Si (fun r => r = usr O d)) 0 0 (fun _ => False) := by
  refine Met.ofW (cc := cX1_users) (maxL := 5) (ret := (some .int)) (by decide) rfl ?_
  intro p e s m args below meth c s₁ B hml hv
  obtain ⟨rfl, hpic, hKN⟩ := hv
  have hK := hKN.1
  have hx := B.exec
  have hb := B.bytes
  have hr := B.returns
  have hts := atoms_spec (ws := wsX1_users) B.pre
  have hown : s.vm.findClass RX1 = some m.cls := findClass_of_methodNamed B.named
  have hlocks := B.notSynchronized
  obtain ⟨hH, hp⟩ := hpic
  subst hH
  have hl := lv_entry ([.ref h, .int d]) (n := 5) (Nat.le_of_ble_eq_true rfl)
  rw [lg_entry_eq]
  generalize (lg_sl ([.ref h, .int d]) ++ List.replicate (5 - (lg_sl ([.ref h, .int d])).length) Slot.unset).toArray = ls at hl ⊢
  have hl : lv_has ls 5 [(0, .ref h), (1, .int d)] := hl
  refine lv_aload_n hx hb dX1_users_0 rfl (lv_at hl 0 rfl) ?_
  refine lv_iload_n hx hb dX1_users_1 rfl (lv_at hl 1 rfl) ?_
  refine pq_q (va_runV (As := [.int d]) (rest := []) ⟨hx, hb, hml, hown, hts⟩ (c_X1_thingOf l D cI cZ cT ρ h tq th O mt wh _ d) (cwV 1 hts gX1_users_X1_thingOf rfl rfl rfl (by decide +kernel) ⟨Nat.le_of_ble_eq_true rfl, Nat.le_of_ble_eq_true rfl⟩) (pre_v ⟨rfl, hp⟩ hKN (recv hKN hp.1 rfl)) rfl rfl hl.1 rfl (lv_room (Nat.le_of_ble_eq_true rfl)) dX1_users_2 ⟨Nat.zero_le _, Nat.zero_le _⟩) (fun h2 => ?_) (fun a2 h2 => ?_)
  · have e2 := tp_none h2
    refine lv_ifnonnullN hx hb dX1_users_5 ?_
    refine lv_iconst (v := 0) hx hb dX1_users_8 (by decide) ?_
    refine W.iret (v := 0) hx hb hr (fun t ht hW => ⟨_, rfl, ?_, ht⟩) (fun _ h => absurd h List.not_mem_nil) dX1_users_9
    unfold usr
    rw [e2]
  · obtain ⟨j2, f2, e2, x2, y2, z2, l2, u2, m2, t2⟩ := tp_some h2
    refine lv_ifnonnull (tgt := 10) hx hb dX1_users_5 (by decide) ?_
    refine lv_iconst (v := 0) hx hb dX1_users_10 (by decide) ?_
    refine lv_istore_n (lv' := [(2, .int 0), (0, .ref h), (1, .int d)]) hx hb dX1_users_11 rfl hl (by decide) rfl (fun ls hl => ?_)
    refine lv_iconst (v := 1) hx hb dX1_users_12 (by decide) ?_
    refine lv_istore_n (lv' := [(3, .int 1), (2, .int 0), (0, .ref h), (1, .int d)]) hx hb dX1_users_13 rfl hl (by decide) rfl (fun ls hl => ?_)
    have loop : ∀ (q k : Nat), k + q = 400 → ∀ ls : Array Slot, lv_has ls 5 [(0, .ref h), (1, .int d), (2, .int (cnt (upr O (2 * d)) k)), (3, .int (nI (k + 1)))] → W p l e (headSpec wsX1_users ({ frames := 2, cells := 0, slots := 0, locals := 42 })).room s m ([.ref h, .int d] : List Value).toArray below meth c s.heap [] 0 0 (MQ below (vp_Si (fun r => r = usr O d)) ([.ref h, .int d] : List Value).toArray s 0 0 (fun _ => False)) (F0 m 14 ls []) := by
      intro q
      induction q with
      | zero =>
        intro k h1 ls hl
        refine lv_iload_n hx hb dX1_users_14 rfl (lv_at hl 3 rfl) ?_
        refine lv_sipush (v := 400) hx hb dX1_users_15 (by decide) ?_
        refine lv_icmp_gt (tgt := 63) hx hb dX1_users_18 (by decide) (fun _ => ?_) (fun c9 => absurd (by rw [i_lt, i_400, nI_toInt (by omega)]; omega) c9)
        refine lv_iload_n hx hb dX1_users_63 rfl (lv_at hl 2 rfl) ?_
        refine W.iret (v := (cnt (upr O (2 * d)) k)) hx hb hr (fun t ht hW => ⟨_, rfl, ?_, ht⟩) (fun _ h => absurd h List.not_mem_nil) dX1_users_64
        have e9 : k = 400 := by omega
        subst e9
        unfold usr
        rw [e2]
      | succ q ih =>
        intro k h1 ls hl
        refine lv_iload_n hx hb dX1_users_14 rfl (lv_at hl 3 rfl) ?_
        refine lv_sipush (v := 400) hx hb dX1_users_15 (by decide) ?_
        refine lv_icmp_gt (tgt := 63) hx hb dX1_users_18 (by decide) (fun c9 => absurd c9 (by rw [i_lt, i_400, nI_toInt (by omega)]; omega)) (fun _ => ?_)
        refine lv_aload_n hx hb dX1_users_21 rfl (lv_at hl 0 rfl) ?_
        refine lv_iload_n hx hb dX1_users_22 rfl (lv_at hl 3 rfl) ?_
        refine pq_q (va_runV (As := [.int (nI (k + 1))]) (rest := []) ⟨hx, hb, hml, hown, hts⟩ (c_X1_thingOf l D cI cZ cT ρ h tq th O mt wh _ (nI (k + 1))) (cwV 1 hts gX1_users_X1_thingOf rfl rfl rfl (by decide +kernel) ⟨Nat.le_of_ble_eq_true rfl, Nat.le_of_ble_eq_true rfl⟩) (pre_v ⟨rfl, hp⟩ hKN (recv hKN hp.1 rfl)) rfl rfl hl.1 rfl (lv_room (Nat.le_of_ble_eq_true rfl)) dX1_users_23 ⟨Nat.zero_le _, Nat.zero_le _⟩) (fun h23 => ?_) (fun a23 h23 => ?_)
        · have e23 := tp_none h23
          have m23 := tk_none e23 (by omega) (by omega)
          refine lv_astoreN (lv' := [(4, .null), (0, .ref h), (1, .int d), (2, .int (cnt (upr O (2 * d)) k)), (3, .int (nI (k + 1)))]) hx hb dX1_users_26 hl (by decide) rfl (fun ls hl => ?_)
          refine lv_aloadN hx hb dX1_users_28 (lv_at hl 0 rfl) ?_
          refine lv_ifnullN (tgt := 57) hx hb dX1_users_30 (by decide) ?_
          have ec : cnt (upr O (2 * d)) k = cnt (upr O (2 * d)) (k + 1) := cnt_f (by unfold upr; rw [m23]; rfl)
          rw [ec] at hl
          refine lv_iinc (v := ((nI (k + 1)) + 1)) (lv' := [(3, .int ((nI (k + 1)) + 1)), (4, .null), (0, .ref h), (1, .int d), (2, .int (cnt (upr O (2 * d)) (k + 1)))]) hx hb dX1_users_57 hl (k := 4) rfl rfl (by decide) rfl (fun ls hl => ?_)
          refine lv_goto (tgt := 14) hx hb dX1_users_60 (by decide) ?_
          rw [← nI_succ] at hl
          exact ih (k + 1) (by omega) _ (lv_sub hl [2, 3, 4, 0] rfl)
        · obtain ⟨j23, f23, e23, x23, y23, z23, l23, u23, m23, t23⟩ := tp_some h23
          obtain ⟨ej23, mj23⟩ := tk_some e23 (by omega)
          refine lv_astore (lv' := [(4, .ref a23), (0, .ref h), (1, .int d), (2, .int (cnt (upr O (2 * d)) k)), (3, .int (nI (k + 1)))]) hx hb dX1_users_26 hl (by decide) rfl (fun ls hl => ?_)
          refine lv_aload hx hb dX1_users_28 (lv_at hl 0 rfl) ?_
          refine lv_ifnull hx hb dX1_users_30 ?_
          refine lv_aload hx hb dX1_users_33 (lv_at hl 0 rfl) ?_
          refine pq_b (va_runVN (As := []) (rest := []) ⟨hx, hb, hml, hown, hts⟩ (c_X0_canBeClass l D cI cZ cT a23 f23 (O.2.1 j23) (O.2.2.1 j23) (O.2.2.2 j23) _) ⟨va_cnB 0 hts gX1_users_X0_canBeClass_n71 rfl rfl rfl hKN.2.2.2.2.2.2.1 (hts (.initialized RX0) (by decide +kernel)) (by decide +kernel) ⟨Nat.le_of_ble_eq_true rfl, Nat.le_of_ble_eq_true rfl⟩, hts (.instanceMethod yX0_canBeClass) (by decide +kernel), hts (.selects RX0 yX0_canBeClass yX0_canBeClass) (by decide +kernel)⟩ (pre_v ⟨rfl, t23⟩ hKN (recv hKN t23.1 rfl)) rfl rfl hl.1 rfl (lv_room (Nat.le_of_ble_eq_true rfl)) dX1_users_35 ⟨Nat.zero_le _, Nat.zero_le _⟩) (fun b35 => ?_) (fun b35 => ?_)
          · refine lv_if_eq (tgt := 57) hx hb dX1_users_38 (by decide) (fun _ => ?_) (fun c9 => absurd (by decide) c9)
            have ec : cnt (upr O (2 * d)) k = cnt (upr O (2 * d)) (k + 1) := cnt_f (by unfold upr; rw [← ej23, b35, Bool.and_false]; rfl)
            rw [ec] at hl
            refine lv_iinc (v := ((nI (k + 1)) + 1)) (lv' := [(3, .int ((nI (k + 1)) + 1)), (4, .ref a23), (0, .ref h), (1, .int d), (2, .int (cnt (upr O (2 * d)) (k + 1)))]) hx hb dX1_users_57 hl (k := 4) rfl rfl (by decide) rfl (fun ls hl => ?_)
            refine lv_goto (tgt := 14) hx hb dX1_users_60 (by decide) ?_
            rw [← nI_succ] at hl
            exact ih (k + 1) (by omega) _ (lv_sub hl [2, 3, 4, 0] rfl)
          · refine lv_if_eq (tgt := 57) hx hb dX1_users_38 (by decide) (fun c9 => absurd c9 (by decide)) (fun _ => ?_)
            refine lv_aload hx hb dX1_users_41 (lv_at hl 0 rfl) ?_
            refine lv_iconst (v := 1) hx hb dX1_users_43 (by decide) ?_
            have q23 := of_decide_eq_true b35
            refine pq_i (va_runVN (As := [.int 1]) (rest := []) ⟨hx, hb, hml, hown, hts⟩ (c_X0_field l D cI cZ cT a23 f23 (O.2.1 j23) (O.2.2.1 j23) (O.2.2.2 j23) _ 1) ⟨va_cnB 1 hts gX1_users_X0_field_n37 rfl rfl rfl hKN.2.2.2.2.2.1 (hts (.initialized RX0) (by decide +kernel)) (by decide +kernel) ⟨Nat.le_of_ble_eq_true rfl, Nat.le_of_ble_eq_true rfl⟩, hts (.instanceMethod yX0_field) (by decide +kernel), hts (.selects RX0 yX0_field yX0_field) (by decide +kernel)⟩ (pre_v ⟨rfl, t23⟩ hKN (recv hKN t23.1 rfl)) rfl rfl hl.1 rfl (lv_room (Nat.le_of_ble_eq_true rfl)) dX1_users_44 ⟨Nat.zero_le _, Nat.zero_le _⟩) (fun r44 hr44 => ?_)
            have hr44 : r44 = O.2.2.2 j23 1 := by
              rw [hr44]
              exact fl1_lt (i := 1) (by omega) t23.2.2
            subst hr44
            refine lv_iload_n hx hb dX1_users_47 rfl (lv_at hl 2 rfl) ?_
            refine pq_i (va_runS (As := [.int d]) (rest := [.int (O.2.2.2 j23 1)]) ⟨hx, hb, hml, hown, hts⟩ (c_X1_objectValue l D cI cZ cT d (by have := tz_some e2; omega) (by have := tz_some e2; omega)) (va_cwS 1 hts gX1_users_X1_objectValue rfl rfl rfl (by decide +kernel) ⟨Nat.le_of_ble_eq_true rfl, Nat.le_of_ble_eq_true rfl⟩) (pre_s trivial hKN) rfl rfl hl.1 rfl (lv_room (Nat.le_of_ble_eq_true rfl)) dX1_users_48 ⟨Nat.zero_le _, Nat.zero_le _⟩) (fun r48 hr48 => ?_)
            subst hr48
            refine lv_icmp_ne (tgt := 57) hx hb dX1_users_51 (by decide) (fun c51 => ?_) (fun c51 => ?_)
            · have ec : cnt (upr O (2 * d)) k = cnt (upr O (2 * d)) (k + 1) := cnt_f (by unfold upr; rw [← ej23, decide_eq_false c51, Bool.and_false])
              rw [ec] at hl
              refine lv_iinc (v := ((nI (k + 1)) + 1)) (lv' := [(3, .int ((nI (k + 1)) + 1)), (4, .ref a23), (0, .ref h), (1, .int d), (2, .int (cnt (upr O (2 * d)) (k + 1)))]) hx hb dX1_users_57 hl (k := 4) rfl rfl (by decide) rfl (fun ls hl => ?_)
              refine lv_goto (tgt := 14) hx hb dX1_users_60 (by decide) ?_
              rw [← nI_succ] at hl
              exact ih (k + 1) (by omega) _ (lv_sub hl [2, 3, 4, 0] rfl)
            · refine lv_iinc (v := ((cnt (upr O (2 * d)) k) + 1)) (lv' := [(2, .int ((cnt (upr O (2 * d)) k) + 1)), (4, .ref a23), (0, .ref h), (1, .int d), (3, .int (nI (k + 1)))]) hx hb dX1_users_54 hl (k := 3) rfl rfl (by decide) rfl (fun ls hl => ?_)
              have ec : cnt (upr O (2 * d)) k + 1 = cnt (upr O (2 * d)) (k + 1) := cnt_t (by unfold upr; rw [mj23, ← ej23, b35, decide_eq_true c51]; rfl)
              rw [ec] at hl
              refine lv_iinc (v := ((nI (k + 1)) + 1)) (lv' := [(3, .int ((nI (k + 1)) + 1)), (2, .int (cnt (upr O (2 * d)) (k + 1))), (4, .ref a23), (0, .ref h), (1, .int d)]) hx hb dX1_users_57 hl (k := 4) rfl rfl (by decide) rfl (fun ls hl => ?_)
              refine lv_goto (tgt := 14) hx hb dX1_users_60 (by decide) ?_
              rw [← nI_succ] at hl
              exact ih (k + 1) (by omega) _ (lv_sub hl [3, 4, 1, 0] rfl)
    exact loop 400 0 (by omega) _ (lv_sub hl [2, 3, 1, 0] rfl)
set_option maxHeartbeats 4000000 in
set_option maxRecDepth 100000 in
theorem c_X1_senders (l : Launch) (D : va_G) (cI cZ cT : ClassId) (ρ : Nat → Nat) (h tq : Nat) (th : Nat → Option Nat) (O : Ob) (mt wh : Int32) (H0 : Heap) (sel : Int32) : Met l yX1_senders wsX1_senders ({ frames := 2, cells := 0, slots := 0, locals := 42 }) (pK D cI cZ cT [.ref h, .int sel] (fun H => H = H0 ∧ px D cI cT ρ h tq th O mt wh H0)) (vp_Si (fun r => r = sdr O sel)) 0 0 (fun _ => False) := by
  refine Met.ofW (cc := cX1_senders) (maxL := 6) (ret := (some .int)) (by decide) rfl ?_
  intro p e s m args below meth c s₁ B hml hv
  obtain ⟨rfl, hpic, hKN⟩ := hv
  have hK := hKN.1
  have hx := B.exec
  have hb := B.bytes
  have hr := B.returns
  have hts := atoms_spec (ws := wsX1_senders) B.pre
  have hown : s.vm.findClass RX1 = some m.cls := findClass_of_methodNamed B.named
  have hlocks := B.notSynchronized
  obtain ⟨hH, hp⟩ := hpic
  subst hH
  have hl := lv_entry ([.ref h, .int sel]) (n := 6) (Nat.le_of_ble_eq_true rfl)
  rw [lg_entry_eq]
  generalize (lg_sl ([.ref h, .int sel]) ++ List.replicate (6 - (lg_sl ([.ref h, .int sel])).length) Slot.unset).toArray = ls at hl ⊢
  have hl : lv_has ls 6 [(0, .ref h), (1, .int sel)] := hl
  refine lv_iconst (v := 0) hx hb dX1_senders_0 (by decide) ?_
  refine lv_istore_n (lv' := [(2, .int 0), (0, .ref h), (1, .int sel)]) hx hb dX1_senders_1 rfl hl (by decide) rfl (fun ls hl => ?_)
  refine lv_iconst (v := 1) hx hb dX1_senders_2 (by decide) ?_
  refine lv_istore_n (lv' := [(3, .int 1), (2, .int 0), (0, .ref h), (1, .int sel)]) hx hb dX1_senders_3 rfl hl (by decide) rfl (fun ls hl => ?_)
  have loop : ∀ (q k : Nat), k + q = 400 → ∀ ls : Array Slot, lv_has ls 6 [(0, .ref h), (1, .int sel), (2, .int (cnt (spr O sel) k)), (3, .int (nI (k + 1)))] → W p l e (headSpec wsX1_senders ({ frames := 2, cells := 0, slots := 0, locals := 42 })).room s m ([.ref h, .int sel] : List Value).toArray below meth c s.heap [] 0 0 (MQ below (vp_Si (fun r => r = sdr O sel)) ([.ref h, .int sel] : List Value).toArray s 0 0 (fun _ => False)) (F0 m 4 ls []) := by
    intro q
    induction q with
    | zero =>
      intro k h1 ls hl
      refine lv_iload_n hx hb dX1_senders_4 rfl (lv_at hl 3 rfl) ?_
      refine lv_sipush (v := 400) hx hb dX1_senders_5 (by decide) ?_
      refine lv_icmp_gt (tgt := 67) hx hb dX1_senders_8 (by decide) (fun _ => ?_) (fun c9 => absurd (by rw [i_lt, i_400, nI_toInt (by omega)]; omega) c9)
      refine lv_iload_n hx hb dX1_senders_67 rfl (lv_at hl 2 rfl) ?_
      refine W.iret (v := (cnt (spr O sel) k)) hx hb hr (fun t ht hW => ⟨_, rfl, ?_, ht⟩) (fun _ h => absurd h List.not_mem_nil) dX1_senders_68
      have e9 : k = 400 := by omega
      subst e9
      rfl
    | succ q ih =>
      intro k h1 ls hl
      refine lv_iload_n hx hb dX1_senders_4 rfl (lv_at hl 3 rfl) ?_
      refine lv_sipush (v := 400) hx hb dX1_senders_5 (by decide) ?_
      refine lv_icmp_gt (tgt := 67) hx hb dX1_senders_8 (by decide) (fun c9 => absurd c9 (by rw [i_lt, i_400, nI_toInt (by omega)]; omega)) (fun _ => ?_)
      refine lv_aload_n hx hb dX1_senders_11 rfl (lv_at hl 0 rfl) ?_
      refine lv_iload_n hx hb dX1_senders_12 rfl (lv_at hl 3 rfl) ?_
      refine pq_q (va_runV (As := [.int (nI (k + 1))]) (rest := []) ⟨hx, hb, hml, hown, hts⟩ (c_X1_thingOf l D cI cZ cT ρ h tq th O mt wh _ (nI (k + 1))) (cwV 1 hts gX1_senders_X1_thingOf rfl rfl rfl (by decide +kernel) ⟨Nat.le_of_ble_eq_true rfl, Nat.le_of_ble_eq_true rfl⟩) (pre_v ⟨rfl, hp⟩ hKN (recv hKN hp.1 rfl)) rfl rfl hl.1 rfl (lv_room (Nat.le_of_ble_eq_true rfl)) dX1_senders_13 ⟨Nat.zero_le _, Nat.zero_le _⟩) (fun h13 => ?_) (fun a13 h13 => ?_)
      · have e13 := tp_none h13
        have m13 := tk_none e13 (by omega) (by omega)
        refine lv_astoreN (lv' := [(4, .null), (0, .ref h), (1, .int sel), (2, .int (cnt (spr O sel) k)), (3, .int (nI (k + 1)))]) hx hb dX1_senders_16 hl (by decide) rfl (fun ls hl => ?_)
        refine lv_aloadN hx hb dX1_senders_18 (lv_at hl 0 rfl) ?_
        refine lv_ifnullN (tgt := 61) hx hb dX1_senders_20 (by decide) ?_
        have ec : cnt (spr O sel) k = cnt (spr O sel) (k + 1) := cnt_f (by unfold spr; rw [m13]; rfl)
        rw [ec] at hl
        refine lv_iinc (v := ((nI (k + 1)) + 1)) (lv' := [(3, .int ((nI (k + 1)) + 1)), (4, .null), (0, .ref h), (1, .int sel), (2, .int (cnt (spr O sel) (k + 1)))]) hx hb dX1_senders_61 hl (k := 4) rfl rfl (by decide) rfl (fun ls hl => ?_)
        refine lv_goto (tgt := 4) hx hb dX1_senders_64 (by decide) ?_
        rw [← nI_succ] at hl
        exact ih (k + 1) (by omega) _ (lv_sub hl [2, 3, 4, 0] rfl)
      · obtain ⟨j13, f13, e13, x13, y13, z13, l13, u13, m13, t13⟩ := tp_some h13
        obtain ⟨ej13, mj13⟩ := tk_some e13 (by omega)
        refine lv_astore (lv' := [(4, .ref a13), (0, .ref h), (1, .int sel), (2, .int (cnt (spr O sel) k)), (3, .int (nI (k + 1)))]) hx hb dX1_senders_16 hl (by decide) rfl (fun ls hl => ?_)
        refine lv_aload hx hb dX1_senders_18 (lv_at hl 0 rfl) ?_
        refine lv_ifnull hx hb dX1_senders_20 ?_
        refine lv_aload hx hb dX1_senders_23 (lv_at hl 0 rfl) ?_
        refine pq_b (va_runVN (As := []) (rest := []) ⟨hx, hb, hml, hown, hts⟩ (c_X0_canBeClass l D cI cZ cT a13 f13 (O.2.1 j13) (O.2.2.1 j13) (O.2.2.2 j13) _) ⟨va_cnB 0 hts gX1_senders_X0_canBeClass_n71 rfl rfl rfl hKN.2.2.2.2.2.2.1 (hts (.initialized RX0) (by decide +kernel)) (by decide +kernel) ⟨Nat.le_of_ble_eq_true rfl, Nat.le_of_ble_eq_true rfl⟩, hts (.instanceMethod yX0_canBeClass) (by decide +kernel), hts (.selects RX0 yX0_canBeClass yX0_canBeClass) (by decide +kernel)⟩ (pre_v ⟨rfl, t13⟩ hKN (recv hKN t13.1 rfl)) rfl rfl hl.1 rfl (lv_room (Nat.le_of_ble_eq_true rfl)) dX1_senders_25 ⟨Nat.zero_le _, Nat.zero_le _⟩) (fun b25 => ?_) (fun b25 => ?_)
        · refine lv_if_eq (tgt := 61) hx hb dX1_senders_28 (by decide) (fun _ => ?_) (fun c9 => absurd (by decide) c9)
          have ec : cnt (spr O sel) k = cnt (spr O sel) (k + 1) := cnt_f (by unfold spr; rw [← ej13, b25, Bool.and_false]; rfl)
          rw [ec] at hl
          refine lv_iinc (v := ((nI (k + 1)) + 1)) (lv' := [(3, .int ((nI (k + 1)) + 1)), (4, .ref a13), (0, .ref h), (1, .int sel), (2, .int (cnt (spr O sel) (k + 1)))]) hx hb dX1_senders_61 hl (k := 4) rfl rfl (by decide) rfl (fun ls hl => ?_)
          refine lv_goto (tgt := 4) hx hb dX1_senders_64 (by decide) ?_
          rw [← nI_succ] at hl
          exact ih (k + 1) (by omega) _ (lv_sub hl [2, 3, 4, 0] rfl)
        · refine lv_if_eq (tgt := 61) hx hb dX1_senders_28 (by decide) (fun c9 => absurd c9 (by decide)) (fun _ => ?_)
          refine lv_aload_n hx hb dX1_senders_31 rfl (lv_at hl 1 rfl) ?_
          refine lv_aload hx hb dX1_senders_32 (lv_at hl 0 rfl) ?_
          refine lv_iconst (v := 1) hx hb dX1_senders_34 (by decide) ?_
          have q13 := of_decide_eq_true b25
          refine pq_i (va_runVN (As := [.int 1]) (rest := [.ref h]) ⟨hx, hb, hml, hown, hts⟩ (c_X0_field l D cI cZ cT a13 f13 (O.2.1 j13) (O.2.2.1 j13) (O.2.2.2 j13) _ 1) ⟨va_cnB 1 hts gX1_senders_X0_field_n37 rfl rfl rfl hKN.2.2.2.2.2.1 (hts (.initialized RX0) (by decide +kernel)) (by decide +kernel) ⟨Nat.le_of_ble_eq_true rfl, Nat.le_of_ble_eq_true rfl⟩, hts (.instanceMethod yX0_field) (by decide +kernel), hts (.selects RX0 yX0_field yX0_field) (by decide +kernel)⟩ (pre_v ⟨rfl, t13⟩ hKN (recv hKN t13.1 rfl)) rfl rfl hl.1 rfl (lv_room (Nat.le_of_ble_eq_true rfl)) dX1_senders_35 ⟨Nat.zero_le _, Nat.zero_le _⟩) (fun r35 hr35 => ?_)
          have hr35 : r35 = O.2.2.2 j13 1 := by
            rw [hr35]
            exact fl1_lt (i := 1) (by omega) t13.2.2
          subst hr35
          refine pq_q (va_runV (As := [.int (O.2.2.2 j13 1)]) (rest := []) ⟨hx, hb, hml, hown, hts⟩ (c_X1_thingMeantBy l D cI cZ cT ρ h tq th O mt wh _ (O.2.2.2 j13 1)) (cwV 1 hts gX1_senders_X1_thingMeantBy rfl rfl rfl (by decide +kernel) ⟨Nat.le_of_ble_eq_true rfl, Nat.le_of_ble_eq_true rfl⟩) (pre_v ⟨rfl, hp⟩ hKN (recv hKN hp.1 rfl)) rfl rfl hl.1 rfl (lv_room (Nat.le_of_ble_eq_true rfl)) dX1_senders_38 ⟨Nat.zero_le _, Nat.zero_le _⟩) (fun h38 => ?_) (fun a38 h38 => ?_)
          · have e38 := tp_none h38
            refine lv_astoreN (lv' := [(5, .null), (4, .ref a13), (0, .ref h), (1, .int sel), (2, .int (cnt (spr O sel) k)), (3, .int (nI (k + 1)))]) hx hb dX1_senders_41 hl (by decide) rfl (fun ls hl => ?_)
            refine lv_aloadN hx hb dX1_senders_43 (lv_at hl 0 rfl) ?_
            refine lv_ifnullN (tgt := 61) hx hb dX1_senders_45 (by decide) ?_
            have ec : cnt (spr O sel) k = cnt (spr O sel) (k + 1) := cnt_f (by unfold spr; rw [← ej13, fnd_none e38, Option.isSome_none, Bool.and_false])
            rw [ec] at hl
            refine lv_iinc (v := ((nI (k + 1)) + 1)) (lv' := [(3, .int ((nI (k + 1)) + 1)), (5, .null), (4, .ref a13), (0, .ref h), (1, .int sel), (2, .int (cnt (spr O sel) (k + 1)))]) hx hb dX1_senders_61 hl (k := 5) rfl rfl (by decide) rfl (fun ls hl => ?_)
            refine lv_goto (tgt := 4) hx hb dX1_senders_64 (by decide) ?_
            rw [← nI_succ] at hl
            exact ih (k + 1) (by omega) _ (lv_sub hl [3, 4, 5, 0] rfl)
          · obtain ⟨j38, f38, e38, x38, y38, z38, l38, u38, m38, t38⟩ := tp_some h38
            refine lv_astore (lv' := [(5, .ref a38), (4, .ref a13), (0, .ref h), (1, .int sel), (2, .int (cnt (spr O sel) k)), (3, .int (nI (k + 1)))]) hx hb dX1_senders_41 hl (by decide) rfl (fun ls hl => ?_)
            refine lv_aload hx hb dX1_senders_43 (lv_at hl 0 rfl) ?_
            refine lv_ifnull hx hb dX1_senders_45 ?_
            refine lv_aload hx hb dX1_senders_48 (lv_at hl 0 rfl) ?_
            refine lv_iload_n hx hb dX1_senders_50 rfl (lv_at hl 3 rfl) ?_
            refine pq_i (va_runVN (As := [.int sel]) (rest := []) ⟨hx, hb, hml, hown, hts⟩ (c_X0_placeOfMethod l D cI cZ cT a38 f38 (O.2.1 j38) (O.2.2.1 j38) (O.2.2.2 j38) _ sel) ⟨va_cnB 1 hts gX1_senders_X0_placeOfMethod_n78 rfl rfl rfl hKN.2.2.2.2.2.2.2.1 (hts (.initialized RX0) (by decide +kernel)) (by decide +kernel) ⟨Nat.le_of_ble_eq_true rfl, Nat.le_of_ble_eq_true rfl⟩, hts (.instanceMethod yX0_placeOfMethod) (by decide +kernel), hts (.selects RX0 yX0_placeOfMethod yX0_placeOfMethod) (by decide +kernel)⟩ (pre_v ⟨rfl, t38⟩ hKN (recv hKN t38.1 rfl)) rfl rfl hl.1 rfl (lv_room (Nat.le_of_ble_eq_true rfl)) dX1_senders_51 ⟨Nat.zero_le _, Nat.zero_le _⟩) (fun r51 hr51 => ?_)
            rcases hpm51 : pm (O.2.2.2 j38) (O.2.2.1 j38) sel with _ | i51
            · rw [hpm51] at hr51
              subst hr51
              show W p l e _ s m _ below meth c _ _ _ _ _ (F0 m 54 ls [.int (-1)])
              refine lv_iconst (v := (-1)) hx hb dX1_senders_54 (by decide) ?_
              refine lv_icmp_eq (tgt := 61) hx hb dX1_senders_55 (by decide) (fun _ => ?_) (fun c9 => absurd (by decide) c9)
              have ec : cnt (spr O sel) k = cnt (spr O sel) (k + 1) := cnt_f (by unfold spr; rw [← ej13, fnd_not e38 hpm51, Option.isSome_none, Bool.and_false])
              rw [ec] at hl
              refine lv_iinc (v := ((nI (k + 1)) + 1)) (lv' := [(3, .int ((nI (k + 1)) + 1)), (5, .ref a38), (4, .ref a13), (0, .ref h), (1, .int sel), (2, .int (cnt (spr O sel) (k + 1)))]) hx hb dX1_senders_61 hl (k := 5) rfl rfl (by decide) rfl (fun ls hl => ?_)
              refine lv_goto (tgt := 4) hx hb dX1_senders_64 (by decide) ?_
              rw [← nI_succ] at hl
              exact ih (k + 1) (by omega) _ (lv_sub hl [3, 4, 5, 0] rfl)
            · rw [hpm51] at hr51
              subst hr51
              have hlt51 := pm_lt hpm51
              show W p l e _ s m _ below meth c _ _ _ _ _ (F0 m 54 ls [.int (nI (i51 + 1))])
              refine lv_iconst (v := (-1)) hx hb dX1_senders_54 (by decide) ?_
              refine lv_icmp_eq (tgt := 61) hx hb dX1_senders_55 (by decide) (fun c9 => absurd c9 (nI_nm1 (by have := t38.2.2; omega))) (fun _ => ?_)
              refine lv_iinc (v := ((cnt (spr O sel) k) + 1)) (lv' := [(2, .int ((cnt (spr O sel) k) + 1)), (5, .ref a38), (4, .ref a13), (0, .ref h), (1, .int sel), (3, .int (nI (k + 1)))]) hx hb dX1_senders_58 hl (k := 4) rfl rfl (by decide) rfl (fun ls hl => ?_)
              have ec : cnt (spr O sel) k + 1 = cnt (spr O sel) (k + 1) := cnt_t (by unfold spr; rw [mj13, ← ej13, b25, fnd_some e38 hpm51]; rfl)
              rw [ec] at hl
              refine lv_iinc (v := ((nI (k + 1)) + 1)) (lv' := [(3, .int ((nI (k + 1)) + 1)), (2, .int (cnt (spr O sel) (k + 1))), (5, .ref a38), (4, .ref a13), (0, .ref h), (1, .int sel)]) hx hb dX1_senders_61 hl (k := 5) rfl rfl (by decide) rfl (fun ls hl => ?_)
              refine lv_goto (tgt := 4) hx hb dX1_senders_64 (by decide) ?_
              rw [← nI_succ] at hl
              exact ih (k + 1) (by omega) _ (lv_sub hl [4, 5, 1, 0] rfl)
  exact loop 400 0 (by omega) _ (lv_sub hl [2, 3, 1, 0] rfl)
end
section
theorem bec_a {O : Ob} {a b : Int32} (h : tk O a = none) : bec O a b = (-1, O) := by
  unfold bec
  rw [h]
theorem bec_b {O : Ob} {a b : Int32} {j : Nat} (h : tk O a = some j) (h2 : tk O b = none) : bec O a b = (-1, O) := by
  simp only [bec, h, h2]
theorem bec_eq {O : Ob} {a b : Int32} {j i : Nat} (h : tk O a = some j) (h2 : tk O b = some i) (h3 : a = b) : bec O a b = (0, O) := by
  simp only [bec, h, h2, if_pos h3]
theorem bec_go {O : Ob} {a b : Int32} {j i : Nat} (h : tk O a = some j) (h2 : tk O b = some i) (h3 : ¬ a = b) : bec O a b = (xt O (2 * a) (2 * b) 400, xo O (2 * a) (2 * b) 400) := by
  simp only [bec, h, h2, if_neg h3]
set_option maxHeartbeats 4000000 in
set_option maxRecDepth 100000 in
theorem c_X1_become (l : Launch) (D : va_G) (cI cZ cT : ClassId) (ρ : Nat → Nat) (h tq : Nat) (th : Nat → Option Nat) (O : Ob) (mt wh : Int32) (H0 : Heap) (a b : Int32) : Met l yX1_become wsX1_become ({ frames := 1, cells := 0, slots := 0, locals := 24 }) (pK D cI cZ cT [.ref h, .int a, .int b] (fun H => H = H0 ∧ px D cI cT ρ h tq th O mt wh H0)) (pm_Qi (fun r H1 => r = (bec O a b).1 ∧ px D cI cT ρ h tq th (bec O a b).2 mt wh H1) (fun q : Nat => ρ q ≠ 0)) 0 0 (fun q : Nat => ρ q ≠ 0) := by
  refine Met.ofW (cc := cX1_become) (maxL := 6) (ret := (some .int)) (by decide) rfl ?_
  intro p e s m args below meth c s₁ B hml hv
  obtain ⟨rfl, hpic, hKN⟩ := hv
  have hK := hKN.1
  have hx := B.exec
  have hb := B.bytes
  have hr := B.returns
  have hts := atoms_spec (ws := wsX1_become) B.pre
  have hown : s.vm.findClass RX1 = some m.cls := findClass_of_methodNamed B.named
  have hlocks := B.notSynchronized
  obtain ⟨hH, hp⟩ := hpic
  subst hH
  have hS : va_S (fun q : Nat => ρ q ≠ 0) s.heap s.heap [] := va_S.rf
  have hl := lv_entry ([.ref h, .int a, .int b]) (n := 6) (Nat.le_of_ble_eq_true rfl)
  rw [lg_entry_eq]
  generalize (lg_sl ([.ref h, .int a, .int b]) ++ List.replicate (6 - (lg_sl ([.ref h, .int a, .int b])).length) Slot.unset).toArray = ls at hl ⊢
  have hl : lv_has ls 6 [(0, .ref h), (1, .int a), (2, .int b)] := hl
  refine lv_aload_n hx hb dX1_become_0 rfl (lv_at hl 0 rfl) ?_
  refine lv_iload_n hx hb dX1_become_1 rfl (lv_at hl 1 rfl) ?_
  refine pq_q (va_runV (As := [.int a]) (rest := []) ⟨hx, hb, hml, hown, hts⟩ (c_X1_thingOf l D cI cZ cT ρ h tq th O mt wh _ a) (cwV 1 hts gX1_become_X1_thingOf rfl rfl rfl (by decide +kernel) ⟨Nat.le_of_ble_eq_true rfl, Nat.le_of_ble_eq_true rfl⟩) (pre_v ⟨rfl, hp⟩ hKN (recv hKN hp.1 rfl)) rfl rfl hl.1 rfl (lv_room (Nat.le_of_ble_eq_true rfl)) dX1_become_2 ⟨Nat.zero_le _, Nat.zero_le _⟩) (fun h2 => ?_) (fun a2 h2 => ?_)
  · have e2 := tp_none h2
    refine lv_ifnullN (tgt := 16) hx hb dX1_become_5 (by decide) ?_
    refine lv_iconst (v := (-1)) hx hb dX1_become_16 (by decide) ?_
    refine W.iret (v := (-1)) hx hb hr (fun t ht hW => ⟨⟨_, rfl, ?_⟩, hS.F ht⟩) hS.2.2 dX1_become_17
    rw [ht]
    rw [bec_a e2]
    exact ⟨rfl, hp⟩
  · obtain ⟨j2, f2, e2, x2, y2, z2, l2, u2, m2, t2⟩ := tp_some h2
    refine lv_ifnull hx hb dX1_become_5 ?_
    refine lv_aload_n hx hb dX1_become_8 rfl (lv_at hl 0 rfl) ?_
    refine lv_iload_n hx hb dX1_become_9 rfl (lv_at hl 2 rfl) ?_
    refine pq_q (va_runV (As := [.int b]) (rest := []) ⟨hx, hb, hml, hown, hts⟩ (c_X1_thingOf l D cI cZ cT ρ h tq th O mt wh _ b) (cwV 1 hts gX1_become_X1_thingOf rfl rfl rfl (by decide +kernel) ⟨Nat.le_of_ble_eq_true rfl, Nat.le_of_ble_eq_true rfl⟩) (pre_v ⟨rfl, hp⟩ hKN (recv hKN hp.1 rfl)) rfl rfl hl.1 rfl (lv_room (Nat.le_of_ble_eq_true rfl)) dX1_become_10 ⟨Nat.zero_le _, Nat.zero_le _⟩) (fun h10 => ?_) (fun a10 h10 => ?_)
    · have e10 := tp_none h10
      refine lv_ifnonnullN hx hb dX1_become_13 ?_
      refine lv_iconst (v := (-1)) hx hb dX1_become_16 (by decide) ?_
      refine W.iret (v := (-1)) hx hb hr (fun t ht hW => ⟨⟨_, rfl, ?_⟩, hS.F ht⟩) hS.2.2 dX1_become_17
      rw [ht]
      rw [bec_b e2 e10]
      exact ⟨rfl, hp⟩
    · obtain ⟨j10, f10, e10, x10, y10, z10, l10, u10, m10, t10⟩ := tp_some h10
      refine lv_ifnonnull (tgt := 18) hx hb dX1_become_13 (by decide) ?_
      refine lv_iload_n hx hb dX1_become_18 rfl (lv_at hl 1 rfl) ?_
      refine lv_iload_n hx hb dX1_become_19 rfl (lv_at hl 2 rfl) ?_
      refine lv_icmp_ne (tgt := 25) hx hb dX1_become_20 (by decide) (fun c20 => ?_) (fun c20 => ?_)
      · refine lv_iconst (v := 0) hx hb dX1_become_25 (by decide) ?_
        refine lv_istore_n (lv' := [(3, .int 0), (0, .ref h), (1, .int a), (2, .int b)]) hx hb dX1_become_26 rfl hl (by decide) rfl (fun ls hl => ?_)
        refine lv_iconst (v := 1) hx hb dX1_become_27 (by decide) ?_
        refine lv_istore (lv' := [(4, .int 1), (3, .int 0), (0, .ref h), (1, .int a), (2, .int b)]) hx hb dX1_become_28 hl (by decide) rfl (fun ls hl => ?_)
        have loop : ∀ (q k : Nat), k + q = 400 → ∀ (H : Heap) (locs : List Loc), px D cI cT ρ h tq th (xo O (2 * a) (2 * b) k) mt wh H → va_S (fun q : Nat => ρ q ≠ 0) s.heap H locs → ∀ ls : Array Slot, lv_has ls 6 [(0, .ref h), (1, .int a), (2, .int b), (3, .int (xt O (2 * a) (2 * b) k)), (4, .int (nI (k + 1)))] → W p l e (headSpec wsX1_become ({ frames := 1, cells := 0, slots := 0, locals := 24 })).room s m ([.ref h, .int a, .int b] : List Value).toArray below meth c H locs 0 0 (MQ below (pm_Qi (fun r H1 => r = (bec O a b).1 ∧ px D cI cT ρ h tq th (bec O a b).2 mt wh H1) (fun q : Nat => ρ q ≠ 0)) ([.ref h, .int a, .int b] : List Value).toArray s 0 0 (fun q : Nat => ρ q ≠ 0)) (F0 m 30 ls []) := by
          intro q
          induction q with
          | zero =>
            intro k h1 H locs hp hS ls hl
            refine lv_iload hx hb dX1_become_30 (lv_at hl 4 rfl) ?_
            refine lv_sipush (v := 400) hx hb dX1_become_32 (by decide) ?_
            refine lv_icmp_gt (tgt := 73) hx hb dX1_become_35 (by decide) (fun _ => ?_) (fun c9 => absurd (by rw [i_lt, i_400, nI_toInt (by omega)]; omega) c9)
            refine lv_iload_n hx hb dX1_become_73 rfl (lv_at hl 3 rfl) ?_
            refine W.iret (v := (xt O (2 * a) (2 * b) k)) hx hb hr (fun t ht hW => ⟨⟨_, rfl, ?_⟩, hS.F ht⟩) hS.2.2 dX1_become_74
            rw [ht]
            have e9 : k = 400 := by omega
            subst e9
            rw [bec_go e2 e10 c20]
            exact ⟨rfl, hp⟩
          | succ q ih =>
            intro k h1 H locs hp hS ls hl
            refine lv_iload hx hb dX1_become_30 (lv_at hl 4 rfl) ?_
            refine lv_sipush (v := 400) hx hb dX1_become_32 (by decide) ?_
            refine lv_icmp_gt (tgt := 73) hx hb dX1_become_35 (by decide) (fun c9 => absurd c9 (by rw [i_lt, i_400, nI_toInt (by omega)]; omega)) (fun _ => ?_)
            refine lv_aload_n hx hb dX1_become_38 rfl (lv_at hl 0 rfl) ?_
            refine lv_iload hx hb dX1_become_39 (lv_at hl 4 rfl) ?_
            refine pq_q (va_runV (As := [.int (nI (k + 1))]) (rest := []) ⟨hx, hb, hml, hown, hts⟩ (c_X1_thingOf l D cI cZ cT ρ h tq th (xo O (2 * a) (2 * b) k) mt wh _ (nI (k + 1))) (cwV 1 hts gX1_become_X1_thingOf rfl rfl rfl (by decide +kernel) ⟨Nat.le_of_ble_eq_true rfl, Nat.le_of_ble_eq_true rfl⟩) (pre_v ⟨rfl, hp⟩ hKN (recv hKN hp.1 rfl)) rfl rfl hl.1 rfl (lv_room (Nat.le_of_ble_eq_true rfl)) dX1_become_41 ⟨Nat.zero_le _, Nat.zero_le _⟩) (fun h41 => ?_) (fun a41 h41 => ?_)
            · have e41 := tp_none h41
              have m41 : O.1 (k + 1) = false := tk_none e41 (by omega) (by omega)
              refine lv_astoreN (lv' := [(5, .null), (0, .ref h), (1, .int a), (2, .int b), (3, .int (xt O (2 * a) (2 * b) k)), (4, .int (nI (k + 1)))]) hx hb dX1_become_44 hl (by decide) rfl (fun ls hl => ?_)
              refine lv_aloadN hx hb dX1_become_46 (lv_at hl 0 rfl) ?_
              refine lv_ifnullN (tgt := 67) hx hb dX1_become_48 (by decide) ?_
              rw [xo_same m41] at hp
              have ec : xt O (2 * a) (2 * b) k = xt O (2 * a) (2 * b) (k + 1) := xt_f m41
              rw [ec] at hl
              refine lv_iinc (v := ((nI (k + 1)) + 1)) (lv' := [(4, .int ((nI (k + 1)) + 1)), (5, .null), (0, .ref h), (1, .int a), (2, .int b), (3, .int (xt O (2 * a) (2 * b) (k + 1)))]) hx hb dX1_become_67 hl (k := 5) rfl rfl (by decide) rfl (fun ls hl => ?_)
              refine lv_goto (tgt := 30) hx hb dX1_become_70 (by decide) ?_
              rw [← nI_succ] at hl
              exact ih (k + 1) (by omega) _ _ hp hS _ (lv_sub hl [2, 3, 4, 5, 0] rfl)
            · obtain ⟨j41, f41, e41, x41, y41, z41, l41, u41, m41, t41⟩ := tp_some h41
              obtain ⟨ej41, mj41⟩ := tk_some e41 (by omega)
              have mj : O.1 (k + 1) = true := mj41
              refine lv_astore (lv' := [(5, .ref a41), (0, .ref h), (1, .int a), (2, .int b), (3, .int (xt O (2 * a) (2 * b) k)), (4, .int (nI (k + 1)))]) hx hb dX1_become_44 hl (by decide) rfl (fun ls hl => ?_)
              refine lv_aload hx hb dX1_become_46 (lv_at hl 0 rfl) ?_
              refine lv_ifnull hx hb dX1_become_48 ?_
              refine lv_iload_n hx hb dX1_become_51 rfl (lv_at hl 4 rfl) ?_
              refine lv_aload hx hb dX1_become_52 (lv_at hl 0 rfl) ?_
              refine lv_iload_n hx hb dX1_become_54 rfl (lv_at hl 2 rfl) ?_
              refine pq_i (va_runS (As := [.int a]) (rest := [.ref a41, .int (xt O (2 * a) (2 * b) k)]) ⟨hx, hb, hml, hown, hts⟩ (c_X1_objectValue l D cI cZ cT a (by have := tz_some e2; omega) (by have := tz_some e2; omega)) (va_cwS 1 hts gX1_become_X1_objectValue rfl rfl rfl (by decide +kernel) ⟨Nat.le_of_ble_eq_true rfl, Nat.le_of_ble_eq_true rfl⟩) (pre_s trivial hKN) rfl rfl hl.1 rfl (lv_room (Nat.le_of_ble_eq_true rfl)) dX1_become_55 ⟨Nat.zero_le _, Nat.zero_le _⟩) (fun r55 hr55 => ?_)
              subst hr55
              refine lv_iload_n hx hb dX1_become_58 rfl (lv_at hl 3 rfl) ?_
              refine pq_i (va_runS (As := [.int b]) (rest := [.int (2 * a), .ref a41, .int (xt O (2 * a) (2 * b) k)]) ⟨hx, hb, hml, hown, hts⟩ (c_X1_objectValue l D cI cZ cT b (by have := tz_some e10; omega) (by have := tz_some e10; omega)) (va_cwS 1 hts gX1_become_X1_objectValue rfl rfl rfl (by decide +kernel) ⟨Nat.le_of_ble_eq_true rfl, Nat.le_of_ble_eq_true rfl⟩) (pre_s trivial hKN) rfl rfl hl.1 rfl (lv_room (Nat.le_of_ble_eq_true rfl)) dX1_become_59 ⟨Nat.zero_le _, Nat.zero_le _⟩) (fun r59 hr59 => ?_)
              subst hr59
              refine pm_i (va_runVN (As := [.int (2 * a), .int (2 * b)]) (rest := [.int (xt O (2 * a) (2 * b) k)]) ⟨hx, hb, hml, hown, hts⟩ (c_X0_exchange l D cI cZ cT a41 f41 ((xo O (2 * a) (2 * b) k).2.1 j41) ((xo O (2 * a) (2 * b) k).2.2.1 j41) ((xo O (2 * a) (2 * b) k).2.2.2 j41) _ (2 * a) (2 * b) (fun e9 => by rw [e9, z41] at y41; omega)) ⟨va_cnB 2 hts gX1_become_X0_exchange_n68 rfl rfl rfl hKN.2.2.2.2.2.2.2.2 (hts (.initialized RX0) (by decide +kernel)) (by decide +kernel) ⟨Nat.le_of_ble_eq_true rfl, Nat.le_of_ble_eq_true rfl⟩, hts (.instanceMethod yX0_exchange) (by decide +kernel), hts (.selects RX0 yX0_exchange yX0_exchange) (by decide +kernel)⟩ (pre_v ⟨rfl, t41⟩ hKN (recv hKN t41.1 rfl)) rfl rfl hl.1 rfl (lv_room (Nat.le_of_ble_eq_true rfl)) dX1_become_62 ⟨Nat.zero_le _, Nat.zero_le _⟩) hS (fun q _ h9 => by show ρ q ≠ 0; rw [show q = f41 from h9, z41]; omega) (fun q h9 => by show ρ q ≠ 0; rw [show q = f41 from h9, z41]; omega) (fun r62 H locs hr62 hz hk hS => ?_)
              obtain ⟨e62, hf⟩ := hr62
              subst e62
              have h9 := px_fields hp x41 z41 t41 hz hk hf
              clear hp
              have hp : px D cI cT ρ h tq th (xo O (2 * a) (2 * b) (k + 1)) mt wh H := by
                rw [ej41] at h9
                have e9 := xo_step (O := O) (x := 2 * a) (y := 2 * b) mj
                rw [← e9]
                exact h9
              clear h9
              refine lv_iadd hx hb dX1_become_65 ?_
              refine lv_istore_n (lv' := [(3, .int ((xt O (2 * a) (2 * b) k) + (xcn ((xo O (2 * a) (2 * b) k).2.2.2 j41) (2 * a) (2 * b) ((xo O (2 * a) (2 * b) k).2.2.1 j41)))), (5, .ref a41), (0, .ref h), (1, .int a), (2, .int b), (4, .int (nI (k + 1)))]) hx hb dX1_become_66 rfl hl (by decide) rfl (fun ls hl => ?_)
              have ec : xt O (2 * a) (2 * b) k + xcn ((xo O (2 * a) (2 * b) k).2.2.2 j41) (2 * a) (2 * b) ((xo O (2 * a) (2 * b) k).2.2.1 j41) = xt O (2 * a) (2 * b) (k + 1) := by
                rw [ej41]
                exact xt_t mj
              rw [ec] at hl
              refine lv_iinc (v := ((nI (k + 1)) + 1)) (lv' := [(4, .int ((nI (k + 1)) + 1)), (3, .int (xt O (2 * a) (2 * b) (k + 1))), (5, .ref a41), (0, .ref h), (1, .int a), (2, .int b)]) hx hb dX1_become_67 hl (k := 5) rfl rfl (by decide) rfl (fun ls hl => ?_)
              refine lv_goto (tgt := 30) hx hb dX1_become_70 (by decide) ?_
              rw [← nI_succ] at hl
              exact ih (k + 1) (by omega) _ _ hp hS _ (lv_sub hl [3, 4, 5, 1, 0] rfl)
        exact loop 400 0 (by omega) _ _ (by rw [xo_0]; exact hp) hS _ (lv_sub hl [2, 3, 4, 1, 0] rfl)
      · refine lv_iconst (v := 0) hx hb dX1_become_23 (by decide) ?_
        refine W.iret (v := 0) hx hb hr (fun t ht hW => ⟨⟨_, rfl, ?_⟩, hS.F ht⟩) hS.2.2 dX1_become_24
        rw [ht]
        rw [bec_eq e2 e10 c20]
        exact ⟨rfl, hp⟩
theorem iw_X1_make_X1 : ∀ w ∈ wsX10, w ∈ wsX1_make := by decide +kernel
theorem iw_X1_make_X0 : ∀ w ∈ wsX00, w ∈ wsX1_make := by decide +kernel
theorem iw_X1_init_X1 : ∀ w ∈ wsX10, w ∈ wsX1_init := by decide +kernel
theorem px_make {D : va_G} {cI cT : ClassId} {ρ : Nat → Nat} {h tq : Nat} {th : Nat → Option Nat} {O : Ob} {mt wh : Int32} {H H3 : Heap} {a f k n : Nat} {b : Bool} (hp : px D cI cT ρ h tq th O mt wh H) (ha : H.size ≤ a) (hf : H.size ≤ f) (hne : a ≠ f) (hz : H.size ≤ H3.size) (hk : ∀ q, q < H.size → q ≠ tq → H3[q]? = H[q]?) (htq : va_at D vwCl (tq, .inl (cT, 401, .inr (.inr (.inr (.inr (va_up th k (some a))))))) H3) (ht : tg D cI a f b n (fun _ => 0) H3) : ∃ (ρ' : Nat → Nat) (th' : Nat → Option Nat), px D cI cT ρ' h tq th' (va_up O.1 k true, va_up O.2.1 k b, va_up O.2.2.1 k n, va_up O.2.2.2 k (fun _ => 0)) mt wh H3 ∧ ∀ q, ρ' q ≠ 0 → ρ q ≠ 0 ∨ H.size ≤ q := by
  obtain ⟨h1, h2, r1, r2, hs, he, ho⟩ := hp
  have own : ∀ q, ρ q ≠ 0 → q ≠ a ∧ q ≠ f := fun q hq => ⟨fun e => by have := hs q hq; omega, fun e => by have := hs q hq; omega⟩
  have keep : ∀ q, ρ q ≠ 0 → va_up (va_up ρ a (2 * k + 3)) f (2 * k + 4) q = ρ q := fun q hq => by
    rw [va_up_ne _ _ (own q hq).2, va_up_ne _ _ (own q hq).1]
  have kept : ∀ q, ρ q ≠ 0 → ρ q ≠ 2 → H3[q]? = H[q]? := fun q hq h9 => hk q (hs q hq) (fun e => h9 (by rw [e]; exact r2))
  refine ⟨va_up (va_up ρ a (2 * k + 3)) f (2 * k + 4), va_up th k (some a), ⟨h1.kept (kept h (by rw [r1]; decide) (by rw [r1]; decide)), htq, by rw [keep h (by rw [r1]; decide)]; exact r1, by rw [keep tq (by rw [r2]; decide)]; exact r2, fun q hq => ?_, he, fun j hj1 hj2 => ?_⟩, fun q hq => ?_⟩
  · by_cases e1 : q = f
    · rw [e1]; exact ht.2.1.lt
    · by_cases e2 : q = a
      · rw [e2]; exact ht.1.lt
      · rw [va_up_ne _ _ e1, va_up_ne _ _ e2] at hq
        exact Nat.lt_of_lt_of_le (hs q hq) hz
  · by_cases hjk : j = k
    · subst hjk
      refine Or.inr ⟨va_up_self _ _ _, a, f, va_up_self _ _ _, by rw [va_up_ne _ _ hne, va_up_self], va_up_self _ _ _, ?_⟩
      show tg D cI a f (va_up O.2.1 j b j) (va_up O.2.2.1 j n j) (va_up O.2.2.2 j (fun _ => 0) j) H3
      rw [va_up_self, va_up_self, va_up_self]
      exact ht
    · show (va_up O.1 k true j = false ∧ va_up th k (some a) j = none) ∨ (va_up O.1 k true j = true ∧ ∃ a2 f2, va_up th k (some a) j = some a2 ∧ _ ∧ _ ∧ tg D cI a2 f2 (va_up O.2.1 k b j) (va_up O.2.2.1 k n j) (va_up O.2.2.2 k (fun _ => 0) j) H3)
      rw [va_up_ne _ _ hjk, va_up_ne _ _ hjk, va_up_ne _ _ hjk, va_up_ne _ _ hjk, va_up_ne _ _ hjk]
      rcases ho j hj1 hj2 with hn | ⟨hm, a2, f2, e1, e2, e3, t2⟩
      · exact Or.inl hn
      · refine Or.inr ⟨hm, a2, f2, e1, ?_, ?_, tg_keep t2 (kept a2 (by omega) (by omega)) (kept f2 (by omega) (by omega))⟩
        · rw [keep a2 (by omega)]; exact e2
        · rw [keep f2 (by omega)]; exact e3
  · by_cases e1 : q = f
    · exact Or.inr (by omega)
    · by_cases e2 : q = a
      · exact Or.inr (by omega)
      · rw [va_up_ne _ _ e1, va_up_ne _ _ e2] at hq
        exact Or.inl hq
set_option maxHeartbeats 4000000 in
set_option maxRecDepth 100000 in
theorem c_X1_make (l : Launch) (D : va_G) (cI cZ cT : ClassId) (ρ : Nat → Nat) (h tq : Nat) (th : Nat → Option Nat) (O : Ob) (mt wh : Int32) (H0 : Heap) (k n : Int32) (b : Bool) : Met l yX1_make wsX1_make ({ frames := 2, cells := 2, slots := 42, locals := 34 }) (pK D cI cZ cT [.ref h, .int k, .int n, .int (b2i b)] (fun H => H = H0 ∧ px D cI cT ρ h tq th O mt wh H0)) (pm_Qi (fun r H1 => (¬ mkok k n ∧ r = 0 ∧ px D cI cT ρ h tq th O mt wh H1) ∨ (mkok k n ∧ r = 1 ∧ ∃ (ρ' : Nat → Nat) (th' : Nat → Option Nat), px D cI cT ρ' h tq th' (mko O k n b) mt wh H1 ∧ ∀ q, ρ' q ≠ 0 → ρ q ≠ 0 ∨ H0.size ≤ q)) (fun q : Nat => ρ q ≠ 0 ∨ H0.size ≤ q)) 2 42 (fun q : Nat => ρ q ≠ 0 ∨ H0.size ≤ q) := by
  refine Met.ofW (cc := cX1_make) (maxL := 4) (ret := (some .boolean)) (by decide) rfl ?_
  intro p e s m args below meth c s₁ B hml hv
  obtain ⟨rfl, hpic, hKN⟩ := hv
  have hK := hKN.1
  have hx := B.exec
  have hb := B.bytes
  have hr := B.returns
  have hts := atoms_spec (ws := wsX1_make) B.pre
  have hown : s.vm.findClass RX1 = some m.cls := findClass_of_methodNamed B.named
  have hlocks := B.notSynchronized
  obtain ⟨hH, hp⟩ := hpic
  subst hH
  have hS : va_S (fun q : Nat => ρ q ≠ 0 ∨ s.heap.size ≤ q) s.heap s.heap [] := va_S.rf
  have hl := lv_entry ([.ref h, .int k, .int n, .int (b2i b)]) (n := 4) (Nat.le_of_ble_eq_true rfl)
  rw [lg_entry_eq]
  generalize (lg_sl ([.ref h, .int k, .int n, .int (b2i b)]) ++ List.replicate (4 - (lg_sl ([.ref h, .int k, .int n, .int (b2i b)])).length) Slot.unset).toArray = ls at hl ⊢
  have hl : lv_has ls 4 [(0, .ref h), (1, .int k), (2, .int n), (3, .int (b2i b))] := hl
  refine lv_iload_n hx hb dX1_make_0 rfl (lv_at hl 1 rfl) ?_
  refine lv_iconst (v := 1) hx hb dX1_make_1 (by decide) ?_
  refine lv_icmp_lt (tgt := 22) hx hb dX1_make_2 (by decide) (fun c2 => ?_) (fun c2 => ?_)
  · simp only [i_lt, i_le, i_0, i_1, i_2, i_4, i_40, i_100, i_400, i_401] at c2
    refine lv_iconst (v := 0) hx hb dX1_make_22 (by decide) ?_
    refine W.widen (k := 2) (n := 42) (Nat.zero_le _) (Nat.zero_le _) ?_
    refine W.zret (v := 0) (ty := .boolean) hx hb hr rfl (fun t ht hW => ⟨⟨_, rfl, ?_⟩, hS.F ht⟩) hS.2.2 dX1_make_23
    rw [ht]
    exact Or.inl ⟨fun h9 => by obtain ⟨h5, h6, h7, h8⟩ := h9; omega, rfl, hp⟩
  · simp only [i_lt, i_le, i_0, i_1, i_2, i_4, i_40, i_100, i_400, i_401] at c2
    refine lv_iload_n hx hb dX1_make_5 rfl (lv_at hl 1 rfl) ?_
    refine lv_sipush (v := 400) hx hb dX1_make_6 (by decide) ?_
    refine lv_icmp_gt (tgt := 22) hx hb dX1_make_9 (by decide) (fun c9 => ?_) (fun c9 => ?_)
    · simp only [i_lt, i_le, i_0, i_1, i_2, i_4, i_40, i_100, i_400, i_401] at c9
      refine lv_iconst (v := 0) hx hb dX1_make_22 (by decide) ?_
      refine W.widen (k := 2) (n := 42) (Nat.zero_le _) (Nat.zero_le _) ?_
      refine W.zret (v := 0) (ty := .boolean) hx hb hr rfl (fun t ht hW => ⟨⟨_, rfl, ?_⟩, hS.F ht⟩) hS.2.2 dX1_make_23
      rw [ht]
      exact Or.inl ⟨fun h9 => by obtain ⟨h5, h6, h7, h8⟩ := h9; omega, rfl, hp⟩
    · simp only [i_lt, i_le, i_0, i_1, i_2, i_4, i_40, i_100, i_400, i_401] at c9
      refine lv_iload_n hx hb dX1_make_12 rfl (lv_at hl 2 rfl) ?_
      refine lv_if_lt (tgt := 22) hx hb dX1_make_13 (by decide) (fun c13 => ?_) (fun c13 => ?_)
      · simp only [i_lt, i_le, i_0, i_1, i_2, i_4, i_40, i_100, i_400, i_401] at c13
        refine lv_iconst (v := 0) hx hb dX1_make_22 (by decide) ?_
        refine W.widen (k := 2) (n := 42) (Nat.zero_le _) (Nat.zero_le _) ?_
        refine W.zret (v := 0) (ty := .boolean) hx hb hr rfl (fun t ht hW => ⟨⟨_, rfl, ?_⟩, hS.F ht⟩) hS.2.2 dX1_make_23
        rw [ht]
        exact Or.inl ⟨fun h9 => by obtain ⟨h5, h6, h7, h8⟩ := h9; omega, rfl, hp⟩
      · simp only [i_lt, i_le, i_0, i_1, i_2, i_4, i_40, i_100, i_400, i_401] at c13
        refine lv_iload_n hx hb dX1_make_16 rfl (lv_at hl 2 rfl) ?_
        refine lv_bipush (v := 40) hx hb dX1_make_17 (by decide) ?_
        refine lv_icmp_le (tgt := 24) hx hb dX1_make_19 (by decide) (fun c19 => ?_) (fun c19 => ?_)
        · simp only [i_lt, i_le, i_0, i_1, i_2, i_4, i_40, i_100, i_400, i_401] at c19
          refine lv_aload_n hx hb dX1_make_24 rfl (lv_at hl 0 rfl) ?_
          refine va_get (D := D) (ci := 1) (v := .ref tq) (C := RX1) (T := TX1) (N := 3) hx hb hts (iw_X1_make_X1) hown hK (one hp.1) 0 rfl rfl 0 (by decide) (hts (.fieldLink RX1 11 "MethodBook" "things" "[LMethodBook$Thing;") (by decide +kernel)) (fun _ h9 => h9) rfl dX1_make_25 ?_
          refine lv_iload_n hx hb dX1_make_28 rfl (lv_at hl 1 rfl) ?_
          refine pw_new (ci := 0) (fs := [.null, .int 0]) (C := RX0) (T := TX0) (N := 2) hx hb hts (iw_X1_make_X0) tyX0 tyX0_ok hown (hts (.classLink RX1 9 RX0) (by decide +kernel)) (hts (.instantiable RX0 2) (by decide +kernel)) (hts (.initialized RX0) (by decide +kernel)) hK hS rfl (fun j hj => by rcases (show j = 0 ∨ j = 1 by omega) with rfl | rfl <;> rfl) (Nat.le_of_ble_eq_true rfl) (Nat.le_of_ble_eq_true rfl) dX1_make_29 (fun q29 H hq29 hn29 hz29 ho29 hS => ?_)
          refine lv_dup hx hb dX1_make_32 rfl ?_
          refine lv_iload_n hx hb dX1_make_33 rfl (lv_at hl 3 rfl) ?_
          refine lv_if_eq (tgt := 41) hx hb dX1_make_34 (by decide) (fun c34 => ?_) (fun c34 => ?_)
          · refine lv_iconst (v := 0) hx hb dX1_make_41 (by decide) ?_
            refine lv_iload_n hx hb dX1_make_42 rfl (lv_at hl 3 rfl) ?_
            refine pm_v (va_runIN (As := [.int 0, .int (b2i b)]) (rest := [.ref q29, .int k, .ref tq]) ⟨hx, hb, hml, hown, hts⟩ (c_X0_init l D cI cZ cT q29 0 b H (by decide) (by decide)) ⟨va_cnB 2 hts gX1_make_X0_init_n22 rfl rfl rfl hKN.2.1 (hts (.initialized RX0) (by decide +kernel)) (by decide +kernel) ⟨Nat.le_of_ble_eq_true rfl, Nat.le_of_ble_eq_true rfl⟩, rfl, hts (.instanceMethod yX0_init) (by decide +kernel)⟩ (pre_s ⟨rfl, hn29⟩ hKN) rfl rfl hl.1 rfl (lv_room (Nat.le_of_ble_eq_true rfl)) dX1_make_43 ⟨Nat.le_of_ble_eq_true rfl, Nat.le_of_ble_eq_true rfl⟩) hS (fun q h8 h9 => Or.inr (by rcases h9 with h9 | h9 <;> omega)) (fun q h9 => Or.inr (by rcases h9 with h9 | h9 <;> omega)) (fun t3 H3 locs ht3 _ hq3 hz3 hk3 hS => ?_)
            obtain ⟨f3, tg3, hf3⟩ := hq3
            rw [ht3] at tg3
            have htq3 := (hp.2.1.kept (ho29 tq (hp.2.2.2.2.1 tq (by rw [hp.2.2.2.1]; decide)))).kept (hk3 tq (by have := hp.2.2.2.2.1 tq (by rw [hp.2.2.2.1]; decide); omega) (fun h9 => by have := hp.2.2.2.2.1 tq (by rw [hp.2.2.2.1]; decide); rcases h9 with h9 | h9 <;> omega))
            refine pw_aast (ci := 0) hx hb hK hS (Or.inl (by rw [hp.2.2.2.1]; decide)) 2 htq3 rfl tg3.1 rfl (vp_in_iff.mpr ⟨by omega, by omega⟩) dX1_make_46 (fun H4 locs htq4 hz4 ho4 hS => ?_)
            have hwf := hp.2.2.2.2.1 tq (by rw [hp.2.2.2.1]; decide)
            have tg4 := tg_keep tg3 (ho4 q29 (by omega)) (ho4 f3 (by omega))
            have e34 : f3 ≠ q29 := fun e9 => by omega
            refine lv_iconst (v := 1) hx hb dX1_make_47 (by decide) ?_
            refine W.zret (v := 1) (ty := .boolean) hx hb hr rfl (fun t ht hW => ⟨⟨_, rfl, ?_⟩, hS.F ht⟩) hS.2.2 dX1_make_48
            rw [ht]
            refine Or.inr ⟨⟨by omega, by omega, by omega, by omega⟩, rfl, ?_⟩
            have h9 := px_make (H3 := H4) hp (by omega) (by omega) (fun e9 => e34 e9.symm) (by omega) (fun q h5 h6 => by rw [ho4 q h6, hk3 q (by omega) (fun h7 => by rcases h7 with h7 | h7 <;> omega), ho29 q h5]) htq4 tg4
            have eb := b2i_z c34
            subst eb
            exact h9
          · refine lv_iload_n hx hb dX1_make_37 rfl (lv_at hl 2 rfl) ?_
            refine lv_goto (tgt := 42) hx hb dX1_make_38 (by decide) ?_
            refine lv_iload_n hx hb dX1_make_42 rfl (lv_at hl 3 rfl) ?_
            refine pm_v (va_runIN (As := [.int n, .int (b2i b)]) (rest := [.ref q29, .int k, .ref tq]) ⟨hx, hb, hml, hown, hts⟩ (c_X0_init l D cI cZ cT q29 n b H (by omega) (by omega)) ⟨va_cnB 2 hts gX1_make_X0_init_n22 rfl rfl rfl hKN.2.1 (hts (.initialized RX0) (by decide +kernel)) (by decide +kernel) ⟨Nat.le_of_ble_eq_true rfl, Nat.le_of_ble_eq_true rfl⟩, rfl, hts (.instanceMethod yX0_init) (by decide +kernel)⟩ (pre_s ⟨rfl, hn29⟩ hKN) rfl rfl hl.1 rfl (lv_room (Nat.le_of_ble_eq_true rfl)) dX1_make_43 ⟨Nat.le_of_ble_eq_true rfl, Nat.le_of_ble_eq_true rfl⟩) hS (fun q h8 h9 => Or.inr (by rcases h9 with h9 | h9 <;> omega)) (fun q h9 => Or.inr (by rcases h9 with h9 | h9 <;> omega)) (fun t3 H3 locs ht3 _ hq3 hz3 hk3 hS => ?_)
            obtain ⟨f3, tg3, hf3⟩ := hq3
            rw [ht3] at tg3
            have htq3 := (hp.2.1.kept (ho29 tq (hp.2.2.2.2.1 tq (by rw [hp.2.2.2.1]; decide)))).kept (hk3 tq (by have := hp.2.2.2.2.1 tq (by rw [hp.2.2.2.1]; decide); omega) (fun h9 => by have := hp.2.2.2.2.1 tq (by rw [hp.2.2.2.1]; decide); rcases h9 with h9 | h9 <;> omega))
            refine pw_aast (ci := 0) hx hb hK hS (Or.inl (by rw [hp.2.2.2.1]; decide)) 2 htq3 rfl tg3.1 rfl (vp_in_iff.mpr ⟨by omega, by omega⟩) dX1_make_46 (fun H4 locs htq4 hz4 ho4 hS => ?_)
            have hwf := hp.2.2.2.2.1 tq (by rw [hp.2.2.2.1]; decide)
            have tg4 := tg_keep tg3 (ho4 q29 (by omega)) (ho4 f3 (by omega))
            have e34 : f3 ≠ q29 := fun e9 => by omega
            refine lv_iconst (v := 1) hx hb dX1_make_47 (by decide) ?_
            refine W.zret (v := 1) (ty := .boolean) hx hb hr rfl (fun t ht hW => ⟨⟨_, rfl, ?_⟩, hS.F ht⟩) hS.2.2 dX1_make_48
            rw [ht]
            refine Or.inr ⟨⟨by omega, by omega, by omega, by omega⟩, rfl, ?_⟩
            have h9 := px_make (H3 := H4) hp (by omega) (by omega) (fun e9 => e34 e9.symm) (by omega) (fun q h5 h6 => by rw [ho4 q h6, hk3 q (by omega) (fun h7 => by rcases h7 with h7 | h7 <;> omega), ho29 q h5]) htq4 tg4
            have eb := b2i_n c34
            subst eb
            exact h9
        · simp only [i_lt, i_le, i_0, i_1, i_2, i_4, i_40, i_100, i_400, i_401] at c19
          refine lv_iconst (v := 0) hx hb dX1_make_22 (by decide) ?_
          refine W.widen (k := 2) (n := 42) (Nat.zero_le _) (Nat.zero_le _) ?_
          refine W.zret (v := 0) (ty := .boolean) hx hb hr rfl (fun t ht hW => ⟨⟨_, rfl, ?_⟩, hS.F ht⟩) hS.2.2 dX1_make_23
          rw [ht]
          exact Or.inl ⟨fun h9 => by obtain ⟨h5, h6, h7, h8⟩ := h9; omega, rfl, hp⟩
end
section
theorem d_one {A : Nat → Prop} {q : Nat × va_E} (h : A q.1) : va_D A [q] := by
  refine ⟨fun i j x y hi hj _ => ?_, fun k x hk => ?_⟩
  · have h1 : i < 1 := (List.getElem?_eq_some_iff.mp hi).1
    have h2 : j < 1 := (List.getElem?_eq_some_iff.mp hj).1
    omega
  · have h1 : k < 1 := (List.getElem?_eq_some_iff.mp hk).1
    rw [show k = 0 by omega] at hk
    cases hk
    exact h
abbrev pk1 (D : va_G) (av : List Value) (B : Heap → Prop) : Array Value → State → Prop := va_Pc av (fun U => B U.heap ∧ va_K D vwCl [] U ∧ va_AO RX0 U)
theorem fb_1 {D : va_G} {av : List Value} {B : Heap → Prop} : FrameBlind (pk1 D av B) := fun a U g mk q => ⟨q.1, q.2.1, va_K.moved (u := U) (U := U.calling g mk a) (Vm.Alike.refl U.vm) q.2.2.1, va_AO.moved (u := U) (U := U.calling g mk a) (Vm.Alike.refl U.vm) q.2.2.2⟩
theorem pre_1 {D : va_G} {s : State} {H : Heap} {As : List Value} {B : Heap → Prop} (hB : B H) (hK : va_K D vwCl [] s) (hn : va_AO RX0 s) : PreS s H (pk1 D As B) As := ⟨fb_1, fun U hU hW => ⟨rfl, by rw [hU]; exact hB, va_K.moved hW.alike hK, va_AO.moved hW.alike hn⟩⟩
set_option maxHeartbeats 4000000 in
set_option maxRecDepth 100000 in
theorem c_X1_init (l : Launch) (D : va_G) (h : Nat) (H0 : Heap) : Met l yX1_init wsX1_init ({ frames := 1, cells := 1, slots := 401, locals := 12 }) (pk1 D [.ref h] (fun H => H = H0 ∧ va_at D vwCl (h, .inr (1, [.null, .int 0, .int 0])) H0)) (pm_Qv (fun t => ∃ (tq : Nat) (cT : ClassId), va_at D vwCl (h, .inr (1, [.ref tq, .int 0, .int 0])) t.heap ∧ va_at D vwCl (tq, .inl (cT, 401, .inr (.inr (.inr (.inr (fun _ => none)))))) t.heap ∧ H0.size ≤ tq ∧ h ≠ tq ∧ va_K D vwCl [(cT, .object RX0)] t) (fun q : Nat => q = h ∨ H0.size ≤ q)) 1 401 (fun q : Nat => q = h ∨ H0.size ≤ q) := by
  refine Met.ofW (cc := cX1_init) (maxL := 1) (ret := none) (by decide) rfl ?_
  intro p e s m args below meth c s₁ B hml hv
  obtain ⟨rfl, hpic, hK, hAO⟩ := hv
  have hx := B.exec
  have hb := B.bytes
  have hr := B.returns
  have hts := atoms_spec (ws := wsX1_init) B.pre
  have hown : s.vm.findClass RX1 = some m.cls := findClass_of_methodNamed B.named
  have hlocks := B.notSynchronized
  have hin : meth.name = "<init>" := (name_of_methodNamed B.named B.method).1
  obtain ⟨hH, hp0⟩ := hpic
  subst hH
  have hA : ∀ q : Nat, s.heap.size ≤ q → (fun q : Nat => q = h ∨ s.heap.size ≤ q) q := fun q h => Or.inr h
  have hS : va_S (fun q : Nat => q = h ∨ s.heap.size ≤ q) s.heap s.heap [] := va_S.rf
  have hP : va_P D vwCl [(h, .inr (1, [.null, .int 0, .int 0]))] s.heap := one hp0
  have hD : va_D (fun q : Nat => q = h ∨ s.heap.size ≤ q) [(h, .inr (1, [.null, .int 0, .int 0]))] := d_one (Or.inl rfl)
  have hl := lv_entry ([.ref h]) (n := 1) (Nat.le_of_ble_eq_true rfl)
  rw [lg_entry_eq]
  generalize (lg_sl ([.ref h]) ++ List.replicate (1 - (lg_sl ([.ref h])).length) Slot.unset).toArray = ls at hl ⊢
  have hl : lv_has ls 1 [(0, .ref h)] := hl
  refine lv_aload_n hx hb dX1_init_0 rfl (lv_at hl 0 rfl) ?_
  refine W.objInit hx hb hown (hts (.methodLink RX1 1 objectInit) (by decide +kernel)) (hts (.instanceMethod objectInit) (by decide +kernel)) (hts (.code objectInit ⟨#[0xb1]⟩ 1 none) (by decide +kernel)) rfl (by rw [hml]; exact hl.1) rfl dX1_init_1 (Nat.le_of_ble_eq_true rfl) (Nat.le_of_ble_eq_true rfl) ?_
  refine W.eq (g2 := F0 m 4 ls []) rfl ?_
  refine lv_aload_n hx hb dX1_init_4 rfl (lv_at hl 0 rfl) ?_
  refine lv_sipush (v := 401) hx hb dX1_init_5 (by decide) ?_
  refine va_newq (N' := 401) hx hb hown (hts (.classLink RX1 9 RX0) (by decide +kernel)) hAO hK hP hD hS hA (by decide) rfl (by decide) (Nat.le_of_ble_eq_true rfl) (Nat.le_of_ble_eq_true rfl) dX1_init_8 (fun q cT H hK1 hP hD hS => ?_)
  have hP : va_P D vwCl [(h, .inr (1, [.null, .int 0, .int 0])), (q, .inl (cT, 401, .inr (.inr (.inr (.inr (fun _ => none))))))] H := hP
  have hD : va_D (fun q : Nat => q = h ∨ s.heap.size ≤ q) [(h, .inr (1, [.null, .int 0, .int 0])), (q, .inl (cT, 401, .inr (.inr (.inr (.inr (fun _ => none))))))] := hD
  refine va_putF (D := D) (ci := 1) (v := .ref q) (ty := .array (.object "MethodBook$Thing")) (C := RX1) (T := TX1) (N := 3) hx hb hts iw_X1_init_X1 tyX1 tyX1_ok nmX1 hown hK hP hD hS 0 rfl rfl 0 (by decide) (hts (.fieldLink RX1 11 "MethodBook" "things" "[LMethodBook$Thing;") (by decide +kernel)) (fun _ h9 => h9) rfl hin rfl (by decide +kernel) rfl rfl (Nat.le_of_ble_eq_true rfl) dX1_init_11 (fun H locs hP hD hS => ?_)
  have hP : va_P D vwCl [(h, .inr (1, [.ref q, .int 0, .int 0])), (q, .inl (cT, 401, .inr (.inr (.inr (.inr (fun _ => none))))))] H := hP
  have hD : va_D (fun q : Nat => q = h ∨ s.heap.size ≤ q) [(h, .inr (1, [.ref q, .int 0, .int 0])), (q, .inl (cT, 401, .inr (.inr (.inr (.inr (fun _ => none))))))] := hD
  refine lv_aload_n hx hb dX1_init_14 rfl (lv_at hl 0 rfl) ?_
  refine lv_iconst (v := 0) hx hb dX1_init_15 (by decide) ?_
  refine va_put (D := D) (ci := 1) (v := .int 0) (ty := .int) (C := RX1) (T := TX1) (N := 3) hx hb hts iw_X1_init_X1 tyX1 tyX1_ok nmX1 hown hK hP hD hS 0 rfl rfl 1 (by decide) (hts (.fieldLink RX1 15 "MethodBook" "foundMethod" "I") (by decide +kernel)) (fun _ h9 => h9) rfl (by decide +kernel) rfl rfl (Nat.le_of_ble_eq_true rfl) dX1_init_16 (fun H locs hP hD hS => ?_)
  have hP : va_P D vwCl [(h, .inr (1, [.ref q, .int 0, .int 0])), (q, .inl (cT, 401, .inr (.inr (.inr (.inr (fun _ => none))))))] H := hP
  have hD : va_D (fun q : Nat => q = h ∨ s.heap.size ≤ q) [(h, .inr (1, [.ref q, .int 0, .int 0])), (q, .inl (cT, 401, .inr (.inr (.inr (.inr (fun _ => none))))))] := hD
  refine lv_aload_n hx hb dX1_init_19 rfl (lv_at hl 0 rfl) ?_
  refine lv_iconst (v := 0) hx hb dX1_init_20 (by decide) ?_
  refine va_put (D := D) (ci := 1) (v := .int 0) (ty := .int) (C := RX1) (T := TX1) (N := 3) hx hb hts iw_X1_init_X1 tyX1 tyX1_ok nmX1 hown hK hP hD hS 0 rfl rfl 2 (by decide) (hts (.fieldLink RX1 19 "MethodBook" "foundClass" "I") (by decide +kernel)) (fun _ h9 => h9) rfl (by decide +kernel) rfl rfl (Nat.le_of_ble_eq_true rfl) dX1_init_21 (fun H locs hP hD hS => ?_)
  have hP : va_P D vwCl [(h, .inr (1, [.ref q, .int 0, .int 0])), (q, .inl (cT, 401, .inr (.inr (.inr (.inr (fun _ => none))))))] H := hP
  have hne : h ≠ q := fun e9 => absurd (hD.1 0 1 _ _ rfl rfl e9) (by decide)
  have hq : s.heap.size ≤ q := by
    rcases hD.2 1 _ rfl with h9 | h9
    · exact absurd h9.symm hne
    · exact h9
  exact W.vret hx hb hr (fun t ht hW => ⟨⟨rfl, q, cT, by rw [ht]; exact hP 0 _ rfl, by rw [ht]; exact hP 1 _ rfl, hq, hne, va_K.moved hW.alike hK1⟩, hS.F ht⟩) hS.2.2 dX1_init_24
end
section
theorem iw_X2_isMade_X2 : ∀ w ∈ wsX20, w ∈ wsX2_isMade := by decide +kernel
theorem iw_X2_isValue_X2 : ∀ w ∈ wsX20, w ∈ wsX2_isValue := by decide +kernel
theorem iw_X2_fieldsOf_X2 : ∀ w ∈ wsX20, w ∈ wsX2_fieldsOf := by decide +kernel
theorem iw_X2_isOfFields_X2 : ∀ w ∈ wsX20, w ∈ wsX2_isOfFields := by decide +kernel
theorem iw_X2_field_X2 : ∀ w ∈ wsX20, w ∈ wsX2_field := by decide +kernel
theorem iw_X2_isField_X2 : ∀ w ∈ wsX20, w ∈ wsX2_isField := by decide +kernel
theorem iw_X2_size_X2 : ∀ w ∈ wsX20, w ∈ wsX2_size := by decide +kernel
theorem iw_X2_get_X2 : ∀ w ∈ wsX20, w ∈ wsX2_get := by decide +kernel
theorem iw_X2_method_X2 : ∀ w ∈ wsX20, w ∈ wsX2_method := by decide +kernel
theorem iw_X2_where_X2 : ∀ w ∈ wsX20, w ∈ wsX2_where := by decide +kernel
/-! ===== the reference's state ===== -/
def szv (O : Ob) (k : Nat) : Int32 := if O.2.1 k = true then nI (O.2.2.1 k) else -1
def rm (O : Ob) (md sz fl : Nat → Int32) : Prop := ∀ k, 1 ≤ k → k ≤ 400 → (O.1 k = false ∧ md k = 0) ∨ (O.1 k = true ∧ md k = 1 ∧ sz k = szv O k ∧ O.2.2.1 k ≤ 40 ∧ (O.2.1 k = false → O.2.2.1 k = 0) ∧ ∀ i, i < O.2.2.1 k → fl (40 * k + i) = O.2.2.2 k i)
def my (D : va_G) (cI cZ : ClassId) (h a1 a2 a3 : Nat) (md sz fl : Nat → Int32) (mt wh : Int32) (H : Heap) : Prop :=
  va_at D vwCl (h, .inr (2, [.ref a1, .ref a2, .ref a3, .int mt, .int wh])) H ∧ va_at D vwCl (a1, .inl (cZ, 401, .inl md)) H ∧ va_at D vwCl (a2, .inl (cI, 401, .inl sz)) H ∧ va_at D vwCl (a3, .inl (cI, 16040, .inl fl)) H ∧ (h ≠ a1 ∧ h ≠ a2 ∧ h ≠ a3) ∧ (a1 ≠ a2 ∧ a1 ≠ a3 ∧ a2 ≠ a3)
theorem my_keep {D : va_G} {cI cZ : ClassId} {h a1 a2 a3 : Nat} {md sz fl : Nat → Int32} {mt wh : Int32} {H H1 : Heap} (hp : my D cI cZ h a1 a2 a3 md sz fl mt wh H) (hk : ∀ q, q = h ∨ q = a1 ∨ q = a2 ∨ q = a3 → H1[q]? = H[q]?) : my D cI cZ h a1 a2 a3 md sz fl mt wh H1 :=
  ⟨hp.1.kept (hk h (Or.inl rfl)), hp.2.1.kept (hk a1 (Or.inr (Or.inl rfl))), hp.2.2.1.kept (hk a2 (Or.inr (Or.inr (Or.inl rfl)))), hp.2.2.2.1.kept (hk a3 (Or.inr (Or.inr (Or.inr rfl)))), hp.2.2.2.2⟩
theorem my_h {D : va_G} {cI cZ : ClassId} {h a1 a2 a3 : Nat} {md sz fl : Nat → Int32} {mt wh mt' wh' : Int32} {H H1 : Heap} (hp : my D cI cZ h a1 a2 a3 md sz fl mt wh H) (hh : va_at D vwCl (h, .inr (2, [.ref a1, .ref a2, .ref a3, .int mt', .int wh'])) H1) (hk : ∀ q, q ≠ h → H1[q]? = H[q]?) : my D cI cZ h a1 a2 a3 md sz fl mt' wh' H1 :=
  ⟨hh, hp.2.1.kept (hk a1 hp.2.2.2.2.1.1.symm), hp.2.2.1.kept (hk a2 hp.2.2.2.2.1.2.1.symm), hp.2.2.2.1.kept (hk a3 hp.2.2.2.2.1.2.2.symm), hp.2.2.2.2⟩
theorem my_1 {D : va_G} {cI cZ : ClassId} {h a1 a2 a3 : Nat} {md md' sz fl : Nat → Int32} {mt wh : Int32} {H H1 : Heap} (hp : my D cI cZ h a1 a2 a3 md sz fl mt wh H) (hh : va_at D vwCl (a1, .inl (cZ, 401, .inl md')) H1) (hk : ∀ q, q ≠ a1 → H1[q]? = H[q]?) : my D cI cZ h a1 a2 a3 md' sz fl mt wh H1 :=
  ⟨hp.1.kept (hk h hp.2.2.2.2.1.1), hh, hp.2.2.1.kept (hk a2 hp.2.2.2.2.2.1.symm), hp.2.2.2.1.kept (hk a3 hp.2.2.2.2.2.2.1.symm), hp.2.2.2.2⟩
theorem my_2 {D : va_G} {cI cZ : ClassId} {h a1 a2 a3 : Nat} {md sz sz' fl : Nat → Int32} {mt wh : Int32} {H H1 : Heap} (hp : my D cI cZ h a1 a2 a3 md sz fl mt wh H) (hh : va_at D vwCl (a2, .inl (cI, 401, .inl sz')) H1) (hk : ∀ q, q ≠ a2 → H1[q]? = H[q]?) : my D cI cZ h a1 a2 a3 md sz' fl mt wh H1 :=
  ⟨hp.1.kept (hk h hp.2.2.2.2.1.2.1), hp.2.1.kept (hk a1 hp.2.2.2.2.2.1), hh, hp.2.2.2.1.kept (hk a3 hp.2.2.2.2.2.2.2.symm), hp.2.2.2.2⟩
theorem my_3 {D : va_G} {cI cZ : ClassId} {h a1 a2 a3 : Nat} {md sz fl fl' : Nat → Int32} {mt wh : Int32} {H H1 : Heap} (hp : my D cI cZ h a1 a2 a3 md sz fl mt wh H) (hh : va_at D vwCl (a3, .inl (cI, 16040, .inl fl')) H1) (hk : ∀ q, q ≠ a3 → H1[q]? = H[q]?) : my D cI cZ h a1 a2 a3 md sz fl' mt wh H1 :=
  ⟨hp.1.kept (hk h hp.2.2.2.2.1.2.2), hp.2.1.kept (hk a1 hp.2.2.2.2.2.2.1), hp.2.2.1.kept (hk a2 hp.2.2.2.2.2.2.2), hh, hp.2.2.2.2⟩
theorem os_f {o : Option Nat} (h : o.isSome = false) : o = none := by
  cases o
  · rfl
  · cases h
theorem os_t {o : Option Nat} (h : o.isSome = true) : ∃ j, o = some j := by
  cases o
  · cases h
  · exact ⟨_, rfl⟩
theorem tz_in {O : Ob} {z : Int} (h1 : 1 ≤ z) (h2 : z ≤ 400) (hm : O.1 z.toNat = true) : tz O z = some z.toNat := by
  unfold tz
  rw [if_pos ⟨h1, h2, hm⟩]
theorem tz_un {O : Ob} {z : Int} (hm : O.1 z.toNat = false) : tz O z = none := by
  unfold tz
  rw [if_neg (by rw [hm]; simp)]
theorem tv_neg {O : Ob} {v : Int32} (h : v.toInt ≤ 0) : tv O v = none := by
  by_cases hv : v.toInt % 2 = 0
  · rw [tv_even hv]
    exact tz_out (Or.inl (by omega))
  · exact tv_odd hv
theorem tk_half {O : Ob} {v : Int32} (h0 : 0 ≤ v.toInt) (he : v.toInt % 2 = 0) : tk O (v / 2) = tv O v := by
  unfold tk
  rw [i_div v h0, tv_even he]
/-- an object that is made, by its value: the half is its number -/
theorem tv_half {O : Ob} {v : Int32} {j : Nat} (h : tv O v = some j) : 0 < v.toInt ∧ (v / 2).toInt = j ∧ 1 ≤ j ∧ j ≤ 400 ∧ O.1 j = true := by
  have he := tv_is_even h
  rw [tv_even he] at h
  obtain ⟨h1, h2, h3, h4⟩ := tz_some h
  exact ⟨by omega, by rw [i_div v (by omega)]; omega, by omega, by omega, h4⟩
theorem tk_num {O : Ob} {k : Int32} {j : Nat} (h : tk O k = some j) : k.toInt = j ∧ 1 ≤ j ∧ j ≤ 400 ∧ O.1 j = true := by
  obtain ⟨h1, h2, h3, h4⟩ := tz_some h
  exact ⟨by omega, by omega, by omega, h4⟩
theorem rm_of {O : Ob} {md sz fl : Nat → Int32} (h : rm O md sz fl) {k : Nat} (h1 : 1 ≤ k) (h2 : k ≤ 400) (hm : O.1 k = true) : sz k = szv O k ∧ O.2.2.1 k ≤ 40 ∧ (O.2.1 k = false → O.2.2.1 k = 0) ∧ ∀ i, i < O.2.2.1 k → fl (40 * k + i) = O.2.2.2 k i := by
  rcases h k h1 h2 with ⟨h3, -⟩ | ⟨-, -, h4⟩
  · rw [h3] at hm
    cases hm
  · exact h4
theorem szv_le {O : Ob} {k : Nat} (hb : O.2.1 k = false → O.2.2.1 k = 0) (hl : O.2.2.1 k ≤ 40) (h : (szv O k).toInt ≤ 0) : O.2.2.1 k = 0 := by
  unfold szv at h
  by_cases ho : O.2.1 k = true
  · rw [if_pos ho, nI_toInt (by omega)] at h
    omega
  · exact hb (by simpa using ho)
theorem szv_gt {O : Ob} {k : Nat} (h : ¬ (szv O k).toInt ≤ 0) : szv O k = nI (O.2.2.1 k) := by
  unfold szv at h ⊢
  by_cases ho : O.2.1 k = true
  · rw [if_pos ho]
  · rw [if_neg ho, i_m1] at h
    exact absurd (by decide) h
theorem szv_of {O : Ob} {k : Nat} (hl : O.2.2.1 k ≤ 40) (h : ¬ (szv O k).toInt < 0) : O.2.1 k = true := by
  unfold szv at h
  by_cases ho : O.2.1 k = true
  · exact ho
  · rw [if_neg ho, i_m1] at h
    exact absurd (by decide) h
theorem szv_no {O : Ob} {k : Nat} (hl : O.2.2.1 k ≤ 40) (h : (szv O k).toInt < 0) : O.2.1 k = false := by
  unfold szv at h
  by_cases ho : O.2.1 k = true
  · rw [if_pos ho, nI_toInt (by omega)] at h
    omega
  · simpa using ho
/-- a number below the size is below the fields -/
theorem szv_in {O : Ob} {k : Nat} {i : Int} (hl : O.2.2.1 k ≤ 40) (h0 : 0 ≤ i) (h : ¬ (szv O k).toInt ≤ i) : i < O.2.2.1 k := by
  unfold szv at h
  by_cases ho : O.2.1 k = true
  · rw [if_pos ho, nI_toInt (by omega)] at h
    omega
  · rw [if_neg ho, i_m1] at h
    omega
theorem szv_out {O : Ob} {k : Nat} {i : Int} (hb : O.2.1 k = false → O.2.2.1 k = 0) (hl : O.2.2.1 k ≤ 40) (h0 : 0 ≤ i) (h : (szv O k).toInt ≤ i) : ¬ i < O.2.2.1 k := by
  unfold szv at h
  by_cases ho : O.2.1 k = true
  · rw [if_pos ho, nI_toInt (by omega)] at h
    omega
  · have := hb (by simpa using ho)
    omega
def fof (O : Ob) (v : Int32) : Nat := match tv O v with
  | none => 0
  | some j => O.2.2.1 j
def ofd (O : Ob) (v : Int32) : Bool := match tv O v with
  | none => false
  | some j => O.2.1 j
def isF (O : Ob) (k i : Int32) : Bool := match tk O k with
  | none => false
  | some j => decide (0 ≤ i.toInt ∧ i.toInt < (O.2.2.1 j : Int))
set_option maxHeartbeats 4000000 in
set_option maxRecDepth 100000 in
theorem c_X2_isMade (l : Launch) (D : va_G) (cI cZ cT : ClassId) (h a1 a2 a3 : Nat) (md sz fl : Nat → Int32) (O : Ob) (hrm : rm O md sz fl) (mt wh : Int32) (H0 : Heap) (k : Int32) : Met l yX2_isMade wsX2_isMade ({ frames := 0, cells := 0, slots := 0, locals := 0 }) (pK D cI cZ cT [.ref h, .int k] (fun H => H = H0 ∧ my D cI cZ h a1 a2 a3 md sz fl mt wh H0)) (vp_Si (fun r => r = b2i (tk O k).isSome)) 0 0 (fun _ => False) := by
  refine Met.ofW (cc := cX2_isMade) (maxL := 2) (ret := (some .boolean)) (by decide) rfl ?_
  intro p e s m args below meth c s₁ B hml hv
  obtain ⟨rfl, hpic, hKN⟩ := hv
  have hK := hKN.1
  have hx := B.exec
  have hb := B.bytes
  have hr := B.returns
  have hts := atoms_spec (ws := wsX2_isMade) B.pre
  have hown : s.vm.findClass RX2 = some m.cls := findClass_of_methodNamed B.named
  have hlocks := B.notSynchronized
  obtain ⟨hH, hp⟩ := hpic
  subst hH
  have hl := lv_entry ([.ref h, .int k]) (n := 2) (Nat.le_of_ble_eq_true rfl)
  rw [lg_entry_eq]
  generalize (lg_sl ([.ref h, .int k]) ++ List.replicate (2 - (lg_sl ([.ref h, .int k])).length) Slot.unset).toArray = ls at hl ⊢
  have hl : lv_has ls 2 [(0, .ref h), (1, .int k)] := hl
  refine lv_iload_n hx hb dX2_isMade_0 rfl (lv_at hl 1 rfl) ?_
  refine lv_if_le (tgt := 24) hx hb dX2_isMade_1 (by decide) (fun c1 => ?_) (fun c1 => ?_)
  · simp only [i_lt, i_le, i_0, i_1, i_2, i_4, i_40, i_100, i_400, i_401] at c1
    refine lv_iconst (v := 0) hx hb dX2_isMade_24 (by decide) ?_
    refine W.zret (v := 0) (ty := .boolean) hx hb hr rfl (fun t ht hW => ⟨_, rfl, ?_, ht⟩) (fun _ h => absurd h List.not_mem_nil) dX2_isMade_25
    rw [show tk O k = none from tz_out (by omega)]
    rfl
  · simp only [i_lt, i_le, i_0, i_1, i_2, i_4, i_40, i_100, i_400, i_401] at c1
    refine lv_iload_n hx hb dX2_isMade_4 rfl (lv_at hl 1 rfl) ?_
    refine lv_sipush (v := 401) hx hb dX2_isMade_5 (by decide) ?_
    refine lv_icmp_ge (tgt := 24) hx hb dX2_isMade_8 (by decide) (fun c8 => ?_) (fun c8 => ?_)
    · simp only [i_lt, i_le, i_0, i_1, i_2, i_4, i_40, i_100, i_400, i_401] at c8
      refine lv_iconst (v := 0) hx hb dX2_isMade_24 (by decide) ?_
      refine W.zret (v := 0) (ty := .boolean) hx hb hr rfl (fun t ht hW => ⟨_, rfl, ?_, ht⟩) (fun _ h => absurd h List.not_mem_nil) dX2_isMade_25
      rw [show tk O k = none from tz_out (by omega)]
      rfl
    · simp only [i_lt, i_le, i_0, i_1, i_2, i_4, i_40, i_100, i_400, i_401] at c8
      refine lv_aload_n hx hb dX2_isMade_11 rfl (lv_at hl 0 rfl) ?_
      refine va_get (D := D) (ci := 2) (v := .ref a1) (C := RX2) (T := TX2) (N := 5) hx hb hts (iw_X2_isMade_X2) hown hK (one hp.1) 0 rfl rfl 0 (by decide) (hts (.fieldLink RX2 7 "MethodBookModel" "made" "[Z") (by decide +kernel)) (fun _ h9 => h9) rfl dX2_isMade_12 ?_
      refine lv_iload_n hx hb dX2_isMade_15 rfl (lv_at hl 1 rfl) ?_
      refine va_zald hx hb hK (one hp.2.1) 0 1 rfl rfl (vp_in_iff.mpr ⟨by omega, by omega⟩) dX2_isMade_16 ?_
      rcases hrm k.toNatClampNeg (by rw [i_cl]; omega) (by rw [i_cl]; omega) with ⟨m16, e16⟩ | ⟨m16, e16, -⟩
      · rw [e16]
        refine lv_if_eq (tgt := 24) hx hb dX2_isMade_17 (by decide) (fun _ => ?_) (fun c9 => absurd (by decide) c9)
        refine lv_iconst (v := 0) hx hb dX2_isMade_24 (by decide) ?_
        refine W.zret (v := 0) (ty := .boolean) hx hb hr rfl (fun t ht hW => ⟨_, rfl, ?_, ht⟩) (fun _ h => absurd h List.not_mem_nil) dX2_isMade_25
        rw [show tk O k = none from tz_un m16]
        rfl
      · rw [e16]
        refine lv_if_eq (tgt := 24) hx hb dX2_isMade_17 (by decide) (fun c9 => absurd c9 (by decide)) (fun _ => ?_)
        refine lv_iconst (v := 1) hx hb dX2_isMade_20 (by decide) ?_
        refine lv_goto (tgt := 25) hx hb dX2_isMade_21 (by decide) ?_
        refine W.zret (v := 1) (ty := .boolean) hx hb hr rfl (fun t ht hW => ⟨_, rfl, ?_, ht⟩) (fun _ h => absurd h List.not_mem_nil) dX2_isMade_25
        rw [show tk O k = some _ from tz_in (by omega) (by omega) m16]
        rfl
set_option maxHeartbeats 4000000 in
set_option maxRecDepth 100000 in
theorem c_X2_isValue (l : Launch) (D : va_G) (cI cZ cT : ClassId) (h a1 a2 a3 : Nat) (md sz fl : Nat → Int32) (O : Ob) (hrm : rm O md sz fl) (mt wh : Int32) (H0 : Heap) (v : Int32) : Met l yX2_isValue wsX2_isValue ({ frames := 1, cells := 0, slots := 0, locals := 21 }) (pK D cI cZ cT [.ref h, .int v] (fun H => H = H0 ∧ my D cI cZ h a1 a2 a3 md sz fl mt wh H0)) (vp_Si (fun r => r = b2i (isV O v))) 0 0 (fun _ => False) := by
  refine Met.ofW (cc := cX2_isValue) (maxL := 2) (ret := (some .boolean)) (by decide) rfl ?_
  intro p e s m args below meth c s₁ B hml hv
  obtain ⟨rfl, hpic, hKN⟩ := hv
  have hK := hKN.1
  have hx := B.exec
  have hb := B.bytes
  have hr := B.returns
  have hts := atoms_spec (ws := wsX2_isValue) B.pre
  have hown : s.vm.findClass RX2 = some m.cls := findClass_of_methodNamed B.named
  have hlocks := B.notSynchronized
  obtain ⟨hH, hp⟩ := hpic
  subst hH
  have hl := lv_entry ([.ref h, .int v]) (n := 2) (Nat.le_of_ble_eq_true rfl)
  rw [lg_entry_eq]
  generalize (lg_sl ([.ref h, .int v]) ++ List.replicate (2 - (lg_sl ([.ref h, .int v])).length) Slot.unset).toArray = ls at hl ⊢
  have hl : lv_has ls 2 [(0, .ref h), (1, .int v)] := hl
  refine lv_iload_n hx hb dX2_isValue_0 rfl (lv_at hl 1 rfl) ?_
  refine lv_if_eq (tgt := 24) hx hb dX2_isValue_1 (by decide) (fun c1 => ?_) (fun c1 => ?_)
  · refine lv_iconst (v := 1) hx hb dX2_isValue_24 (by decide) ?_
    refine lv_goto (tgt := 29) hx hb dX2_isValue_25 (by decide) ?_
    refine W.zret (v := 1) (ty := .boolean) hx hb hr rfl (fun t ht hW => ⟨_, rfl, ?_, ht⟩) (fun _ h => absurd h List.not_mem_nil) dX2_isValue_29
    unfold isV
    rw [decide_eq_true c1]
    rfl
  · refine lv_iload_n hx hb dX2_isValue_4 rfl (lv_at hl 1 rfl) ?_
    refine lv_iconst (v := 2) hx hb dX2_isValue_5 (by decide) ?_
    refine lv_irem hx hb dX2_isValue_6 (by decide) ?_
    refine lv_if_ne (tgt := 24) hx hb dX2_isValue_7 (by decide) (fun c7 => ?_) (fun c7 => ?_)
    · have q7 : ¬ v.toInt % 2 = 0 := fun h9 => c7 ((i_rem v).mpr h9)
      refine lv_iconst (v := 1) hx hb dX2_isValue_24 (by decide) ?_
      refine lv_goto (tgt := 29) hx hb dX2_isValue_25 (by decide) ?_
      refine W.zret (v := 1) (ty := .boolean) hx hb hr rfl (fun t ht hW => ⟨_, rfl, ?_, ht⟩) (fun _ h => absurd h List.not_mem_nil) dX2_isValue_29
      unfold isV
      rw [decide_eq_true (show v.toInt % 2 = 1 by omega), Bool.or_true]
      rfl
    · have q7 : v.toInt % 2 = 0 := (i_rem v).mp c7
      refine lv_iload_n hx hb dX2_isValue_10 rfl (lv_at hl 1 rfl) ?_
      refine lv_if_le (tgt := 28) hx hb dX2_isValue_11 (by decide) (fun c11 => ?_) (fun c11 => ?_)
      · simp only [i_lt, i_le, i_0, i_1, i_2, i_4, i_40, i_100, i_400, i_401] at c11
        refine lv_iconst (v := 0) hx hb dX2_isValue_28 (by decide) ?_
        refine W.zret (v := 0) (ty := .boolean) hx hb hr rfl (fun t ht hW => ⟨_, rfl, ?_, ht⟩) (fun _ h => absurd h List.not_mem_nil) dX2_isValue_29
        unfold isV
        rw [decide_eq_false c1, decide_eq_false (show ¬ v.toInt % 2 = 1 by omega), tv_neg (by omega)]
        rfl
      · simp only [i_lt, i_le, i_0, i_1, i_2, i_4, i_40, i_100, i_400, i_401] at c11
        refine lv_aload_n hx hb dX2_isValue_14 rfl (lv_at hl 0 rfl) ?_
        refine lv_iload_n hx hb dX2_isValue_15 rfl (lv_at hl 1 rfl) ?_
        refine lv_iconst (v := 2) hx hb dX2_isValue_16 (by decide) ?_
        refine lv_idiv hx hb dX2_isValue_17 (by decide) ?_
        refine pq_b (va_runV (As := [.int (v / 2)]) (rest := []) ⟨hx, hb, hml, hown, hts⟩ (c_X2_isMade l D cI cZ cT h a1 a2 a3 md sz fl O hrm mt wh _ (v / 2)) (cwV 1 hts gX2_isValue_X2_isMade rfl rfl rfl (by decide +kernel) ⟨Nat.le_of_ble_eq_true rfl, Nat.le_of_ble_eq_true rfl⟩) (pre_v ⟨rfl, hp⟩ hKN (recv hKN hp.1 rfl)) rfl rfl hl.1 rfl (lv_room (Nat.le_of_ble_eq_true rfl)) dX2_isValue_18 ⟨Nat.zero_le _, Nat.zero_le _⟩) (fun b18 => ?_) (fun b18 => ?_)
        · have e18 := os_f b18
          rw [tk_half (by omega) q7] at e18
          refine lv_if_eq (tgt := 28) hx hb dX2_isValue_21 (by decide) (fun _ => ?_) (fun c9 => absurd (by decide) c9)
          refine lv_iconst (v := 0) hx hb dX2_isValue_28 (by decide) ?_
          refine W.zret (v := 0) (ty := .boolean) hx hb hr rfl (fun t ht hW => ⟨_, rfl, ?_, ht⟩) (fun _ h => absurd h List.not_mem_nil) dX2_isValue_29
          unfold isV
          rw [decide_eq_false c1, decide_eq_false (show ¬ v.toInt % 2 = 1 by omega), e18]
          rfl
        · obtain ⟨j18, e18⟩ := os_t b18
          rw [tk_half (by omega) q7] at e18
          obtain ⟨p18, n18, l18, u18, m18⟩ := tv_half e18
          obtain ⟨s18, t18, w18, x18⟩ := rm_of hrm l18 u18 m18
          refine lv_if_eq (tgt := 28) hx hb dX2_isValue_21 (by decide) (fun c9 => absurd c9 (by decide)) (fun _ => ?_)
          refine lv_iconst (v := 1) hx hb dX2_isValue_24 (by decide) ?_
          refine lv_goto (tgt := 29) hx hb dX2_isValue_25 (by decide) ?_
          refine W.zret (v := 1) (ty := .boolean) hx hb hr rfl (fun t ht hW => ⟨_, rfl, ?_, ht⟩) (fun _ h => absurd h List.not_mem_nil) dX2_isValue_29
          unfold isV
          rw [e18, Option.isSome_some, Bool.or_true]
          rfl
set_option maxHeartbeats 4000000 in
set_option maxRecDepth 100000 in
theorem c_X2_fieldsOf (l : Launch) (D : va_G) (cI cZ cT : ClassId) (h a1 a2 a3 : Nat) (md sz fl : Nat → Int32) (O : Ob) (hrm : rm O md sz fl) (mt wh : Int32) (H0 : Heap) (v : Int32) : Met l yX2_fieldsOf wsX2_fieldsOf ({ frames := 1, cells := 0, slots := 0, locals := 21 }) (pK D cI cZ cT [.ref h, .int v] (fun H => H = H0 ∧ my D cI cZ h a1 a2 a3 md sz fl mt wh H0)) (vp_Si (fun r => r = nI (fof O v))) 0 0 (fun _ => False) := by
  refine Met.ofW (cc := cX2_fieldsOf) (maxL := 2) (ret := (some .int)) (by decide) rfl ?_
  intro p e s m args below meth c s₁ B hml hv
  obtain ⟨rfl, hpic, hKN⟩ := hv
  have hK := hKN.1
  have hx := B.exec
  have hb := B.bytes
  have hr := B.returns
  have hts := atoms_spec (ws := wsX2_fieldsOf) B.pre
  have hown : s.vm.findClass RX2 = some m.cls := findClass_of_methodNamed B.named
  have hlocks := B.notSynchronized
  obtain ⟨hH, hp⟩ := hpic
  subst hH
  have hl := lv_entry ([.ref h, .int v]) (n := 2) (Nat.le_of_ble_eq_true rfl)
  rw [lg_entry_eq]
  generalize (lg_sl ([.ref h, .int v]) ++ List.replicate (2 - (lg_sl ([.ref h, .int v])).length) Slot.unset).toArray = ls at hl ⊢
  have hl : lv_has ls 2 [(0, .ref h), (1, .int v)] := hl
  refine lv_iload_n hx hb dX2_fieldsOf_0 rfl (lv_at hl 1 rfl) ?_
  refine lv_if_le (tgt := 42) hx hb dX2_fieldsOf_1 (by decide) (fun c1 => ?_) (fun c1 => ?_)
  · simp only [i_lt, i_le, i_0, i_1, i_2, i_4, i_40, i_100, i_400, i_401] at c1
    refine lv_iconst (v := 0) hx hb dX2_fieldsOf_42 (by decide) ?_
    refine W.iret (v := 0) hx hb hr (fun t ht hW => ⟨_, rfl, ?_, ht⟩) (fun _ h => absurd h List.not_mem_nil) dX2_fieldsOf_43
    unfold fof
    rw [tv_neg (by omega)]
    rfl
  · simp only [i_lt, i_le, i_0, i_1, i_2, i_4, i_40, i_100, i_400, i_401] at c1
    refine lv_iload_n hx hb dX2_fieldsOf_4 rfl (lv_at hl 1 rfl) ?_
    refine lv_iconst (v := 2) hx hb dX2_fieldsOf_5 (by decide) ?_
    refine lv_irem hx hb dX2_fieldsOf_6 (by decide) ?_
    refine lv_if_ne (tgt := 42) hx hb dX2_fieldsOf_7 (by decide) (fun c7 => ?_) (fun c7 => ?_)
    · have q7 : ¬ v.toInt % 2 = 0 := fun h9 => c7 ((i_rem v).mpr h9)
      refine lv_iconst (v := 0) hx hb dX2_fieldsOf_42 (by decide) ?_
      refine W.iret (v := 0) hx hb hr (fun t ht hW => ⟨_, rfl, ?_, ht⟩) (fun _ h => absurd h List.not_mem_nil) dX2_fieldsOf_43
      unfold fof
      rw [tv_odd q7]
      rfl
    · have q7 : v.toInt % 2 = 0 := (i_rem v).mp c7
      refine lv_aload_n hx hb dX2_fieldsOf_10 rfl (lv_at hl 0 rfl) ?_
      refine lv_iload_n hx hb dX2_fieldsOf_11 rfl (lv_at hl 1 rfl) ?_
      refine lv_iconst (v := 2) hx hb dX2_fieldsOf_12 (by decide) ?_
      refine lv_idiv hx hb dX2_fieldsOf_13 (by decide) ?_
      refine pq_b (va_runV (As := [.int (v / 2)]) (rest := []) ⟨hx, hb, hml, hown, hts⟩ (c_X2_isMade l D cI cZ cT h a1 a2 a3 md sz fl O hrm mt wh _ (v / 2)) (cwV 1 hts gX2_fieldsOf_X2_isMade rfl rfl rfl (by decide +kernel) ⟨Nat.le_of_ble_eq_true rfl, Nat.le_of_ble_eq_true rfl⟩) (pre_v ⟨rfl, hp⟩ hKN (recv hKN hp.1 rfl)) rfl rfl hl.1 rfl (lv_room (Nat.le_of_ble_eq_true rfl)) dX2_fieldsOf_14 ⟨Nat.zero_le _, Nat.zero_le _⟩) (fun b14 => ?_) (fun b14 => ?_)
      · have e14 := os_f b14
        rw [tk_half (by omega) q7] at e14
        refine lv_if_eq (tgt := 42) hx hb dX2_fieldsOf_17 (by decide) (fun _ => ?_) (fun c9 => absurd (by decide) c9)
        refine lv_iconst (v := 0) hx hb dX2_fieldsOf_42 (by decide) ?_
        refine W.iret (v := 0) hx hb hr (fun t ht hW => ⟨_, rfl, ?_, ht⟩) (fun _ h => absurd h List.not_mem_nil) dX2_fieldsOf_43
        unfold fof
        rw [e14]
        rfl
      · obtain ⟨j14, e14⟩ := os_t b14
        rw [tk_half (by omega) q7] at e14
        obtain ⟨p14, n14, l14, u14, m14⟩ := tv_half e14
        obtain ⟨s14, t14, w14, x14⟩ := rm_of hrm l14 u14 m14
        refine lv_if_eq (tgt := 42) hx hb dX2_fieldsOf_17 (by decide) (fun c9 => absurd c9 (by decide)) (fun _ => ?_)
        refine lv_aload_n hx hb dX2_fieldsOf_20 rfl (lv_at hl 0 rfl) ?_
        refine va_get (D := D) (ci := 2) (v := .ref a2) (C := RX2) (T := TX2) (N := 5) hx hb hts (iw_X2_fieldsOf_X2) hown hK (one hp.1) 0 rfl rfl 1 (by decide) (hts (.fieldLink RX2 13 "MethodBookModel" "sizes" "[I") (by decide +kernel)) (fun _ h9 => h9) rfl dX2_fieldsOf_21 ?_
        refine lv_iload_n hx hb dX2_fieldsOf_24 rfl (lv_at hl 1 rfl) ?_
        refine lv_iconst (v := 2) hx hb dX2_fieldsOf_25 (by decide) ?_
        refine lv_idiv hx hb dX2_fieldsOf_26 (by decide) ?_
        refine va_iald hx hb hK (one hp.2.2.1) 0 0 rfl rfl (vp_in_iff.mpr ⟨by omega, by omega⟩) dX2_fieldsOf_27 ?_
        rw [show sz (v / 2).toNatClampNeg = szv O j14 from by rw [i_cl, n14]; exact s14]
        refine lv_if_le (tgt := 42) hx hb dX2_fieldsOf_28 (by decide) (fun c28 => ?_) (fun c28 => ?_)
        · simp only [i_lt, i_le, i_0, i_1, i_2, i_4, i_40, i_100, i_400, i_401] at c28
          refine lv_iconst (v := 0) hx hb dX2_fieldsOf_42 (by decide) ?_
          refine W.iret (v := 0) hx hb hr (fun t ht hW => ⟨_, rfl, ?_, ht⟩) (fun _ h => absurd h List.not_mem_nil) dX2_fieldsOf_43
          unfold fof
          rw [e14]
          show 0 = nI (O.2.2.1 j14)
          rw [szv_le w14 t14 c28]
          rfl
        · simp only [i_lt, i_le, i_0, i_1, i_2, i_4, i_40, i_100, i_400, i_401] at c28
          refine lv_aload_n hx hb dX2_fieldsOf_31 rfl (lv_at hl 0 rfl) ?_
          refine va_get (D := D) (ci := 2) (v := .ref a2) (C := RX2) (T := TX2) (N := 5) hx hb hts (iw_X2_fieldsOf_X2) hown hK (one hp.1) 0 rfl rfl 1 (by decide) (hts (.fieldLink RX2 13 "MethodBookModel" "sizes" "[I") (by decide +kernel)) (fun _ h9 => h9) rfl dX2_fieldsOf_32 ?_
          refine lv_iload_n hx hb dX2_fieldsOf_35 rfl (lv_at hl 1 rfl) ?_
          refine lv_iconst (v := 2) hx hb dX2_fieldsOf_36 (by decide) ?_
          refine lv_idiv hx hb dX2_fieldsOf_37 (by decide) ?_
          refine va_iald hx hb hK (one hp.2.2.1) 0 0 rfl rfl (vp_in_iff.mpr ⟨by omega, by omega⟩) dX2_fieldsOf_38 ?_
          rw [show sz (v / 2).toNatClampNeg = szv O j14 from by rw [i_cl, n14]; exact s14]
          refine lv_goto (tgt := 43) hx hb dX2_fieldsOf_39 (by decide) ?_
          refine W.iret (v := (szv O j14)) hx hb hr (fun t ht hW => ⟨_, rfl, ?_, ht⟩) (fun _ h => absurd h List.not_mem_nil) dX2_fieldsOf_43
          unfold fof
          rw [e14]
          exact szv_gt c28
set_option maxHeartbeats 4000000 in
set_option maxRecDepth 100000 in
theorem c_X2_isOfFields (l : Launch) (D : va_G) (cI cZ cT : ClassId) (h a1 a2 a3 : Nat) (md sz fl : Nat → Int32) (O : Ob) (hrm : rm O md sz fl) (mt wh : Int32) (H0 : Heap) (v : Int32) : Met l yX2_isOfFields wsX2_isOfFields ({ frames := 1, cells := 0, slots := 0, locals := 21 }) (pK D cI cZ cT [.ref h, .int v] (fun H => H = H0 ∧ my D cI cZ h a1 a2 a3 md sz fl mt wh H0)) (vp_Si (fun r => r = b2i (ofd O v))) 0 0 (fun _ => False) := by
  refine Met.ofW (cc := cX2_isOfFields) (maxL := 2) (ret := (some .boolean)) (by decide) rfl ?_
  intro p e s m args below meth c s₁ B hml hv
  obtain ⟨rfl, hpic, hKN⟩ := hv
  have hK := hKN.1
  have hx := B.exec
  have hb := B.bytes
  have hr := B.returns
  have hts := atoms_spec (ws := wsX2_isOfFields) B.pre
  have hown : s.vm.findClass RX2 = some m.cls := findClass_of_methodNamed B.named
  have hlocks := B.notSynchronized
  obtain ⟨hH, hp⟩ := hpic
  subst hH
  have hl := lv_entry ([.ref h, .int v]) (n := 2) (Nat.le_of_ble_eq_true rfl)
  rw [lg_entry_eq]
  generalize (lg_sl ([.ref h, .int v]) ++ List.replicate (2 - (lg_sl ([.ref h, .int v])).length) Slot.unset).toArray = ls at hl ⊢
  have hl : lv_has ls 2 [(0, .ref h), (1, .int v)] := hl
  refine lv_iload_n hx hb dX2_isOfFields_0 rfl (lv_at hl 1 rfl) ?_
  refine lv_if_le (tgt := 35) hx hb dX2_isOfFields_1 (by decide) (fun c1 => ?_) (fun c1 => ?_)
  · simp only [i_lt, i_le, i_0, i_1, i_2, i_4, i_40, i_100, i_400, i_401] at c1
    refine lv_iconst (v := 0) hx hb dX2_isOfFields_35 (by decide) ?_
    refine W.zret (v := 0) (ty := .boolean) hx hb hr rfl (fun t ht hW => ⟨_, rfl, ?_, ht⟩) (fun _ h => absurd h List.not_mem_nil) dX2_isOfFields_36
    unfold ofd
    rw [tv_neg (by omega)]
    rfl
  · simp only [i_lt, i_le, i_0, i_1, i_2, i_4, i_40, i_100, i_400, i_401] at c1
    refine lv_iload_n hx hb dX2_isOfFields_4 rfl (lv_at hl 1 rfl) ?_
    refine lv_iconst (v := 2) hx hb dX2_isOfFields_5 (by decide) ?_
    refine lv_irem hx hb dX2_isOfFields_6 (by decide) ?_
    refine lv_if_ne (tgt := 35) hx hb dX2_isOfFields_7 (by decide) (fun c7 => ?_) (fun c7 => ?_)
    · have q7 : ¬ v.toInt % 2 = 0 := fun h9 => c7 ((i_rem v).mpr h9)
      refine lv_iconst (v := 0) hx hb dX2_isOfFields_35 (by decide) ?_
      refine W.zret (v := 0) (ty := .boolean) hx hb hr rfl (fun t ht hW => ⟨_, rfl, ?_, ht⟩) (fun _ h => absurd h List.not_mem_nil) dX2_isOfFields_36
      unfold ofd
      rw [tv_odd q7]
      rfl
    · have q7 : v.toInt % 2 = 0 := (i_rem v).mp c7
      refine lv_aload_n hx hb dX2_isOfFields_10 rfl (lv_at hl 0 rfl) ?_
      refine lv_iload_n hx hb dX2_isOfFields_11 rfl (lv_at hl 1 rfl) ?_
      refine lv_iconst (v := 2) hx hb dX2_isOfFields_12 (by decide) ?_
      refine lv_idiv hx hb dX2_isOfFields_13 (by decide) ?_
      refine pq_b (va_runV (As := [.int (v / 2)]) (rest := []) ⟨hx, hb, hml, hown, hts⟩ (c_X2_isMade l D cI cZ cT h a1 a2 a3 md sz fl O hrm mt wh _ (v / 2)) (cwV 1 hts gX2_isOfFields_X2_isMade rfl rfl rfl (by decide +kernel) ⟨Nat.le_of_ble_eq_true rfl, Nat.le_of_ble_eq_true rfl⟩) (pre_v ⟨rfl, hp⟩ hKN (recv hKN hp.1 rfl)) rfl rfl hl.1 rfl (lv_room (Nat.le_of_ble_eq_true rfl)) dX2_isOfFields_14 ⟨Nat.zero_le _, Nat.zero_le _⟩) (fun b14 => ?_) (fun b14 => ?_)
      · have e14 := os_f b14
        rw [tk_half (by omega) q7] at e14
        refine lv_if_eq (tgt := 35) hx hb dX2_isOfFields_17 (by decide) (fun _ => ?_) (fun c9 => absurd (by decide) c9)
        refine lv_iconst (v := 0) hx hb dX2_isOfFields_35 (by decide) ?_
        refine W.zret (v := 0) (ty := .boolean) hx hb hr rfl (fun t ht hW => ⟨_, rfl, ?_, ht⟩) (fun _ h => absurd h List.not_mem_nil) dX2_isOfFields_36
        unfold ofd
        rw [e14]
        rfl
      · obtain ⟨j14, e14⟩ := os_t b14
        rw [tk_half (by omega) q7] at e14
        obtain ⟨p14, n14, l14, u14, m14⟩ := tv_half e14
        obtain ⟨s14, t14, w14, x14⟩ := rm_of hrm l14 u14 m14
        refine lv_if_eq (tgt := 35) hx hb dX2_isOfFields_17 (by decide) (fun c9 => absurd c9 (by decide)) (fun _ => ?_)
        refine lv_aload_n hx hb dX2_isOfFields_20 rfl (lv_at hl 0 rfl) ?_
        refine va_get (D := D) (ci := 2) (v := .ref a2) (C := RX2) (T := TX2) (N := 5) hx hb hts (iw_X2_isOfFields_X2) hown hK (one hp.1) 0 rfl rfl 1 (by decide) (hts (.fieldLink RX2 13 "MethodBookModel" "sizes" "[I") (by decide +kernel)) (fun _ h9 => h9) rfl dX2_isOfFields_21 ?_
        refine lv_iload_n hx hb dX2_isOfFields_24 rfl (lv_at hl 1 rfl) ?_
        refine lv_iconst (v := 2) hx hb dX2_isOfFields_25 (by decide) ?_
        refine lv_idiv hx hb dX2_isOfFields_26 (by decide) ?_
        refine va_iald hx hb hK (one hp.2.2.1) 0 0 rfl rfl (vp_in_iff.mpr ⟨by omega, by omega⟩) dX2_isOfFields_27 ?_
        rw [show sz (v / 2).toNatClampNeg = szv O j14 from by rw [i_cl, n14]; exact s14]
        refine lv_if_lt (tgt := 35) hx hb dX2_isOfFields_28 (by decide) (fun c28 => ?_) (fun c28 => ?_)
        · simp only [i_lt, i_le, i_0, i_1, i_2, i_4, i_40, i_100, i_400, i_401] at c28
          refine lv_iconst (v := 0) hx hb dX2_isOfFields_35 (by decide) ?_
          refine W.zret (v := 0) (ty := .boolean) hx hb hr rfl (fun t ht hW => ⟨_, rfl, ?_, ht⟩) (fun _ h => absurd h List.not_mem_nil) dX2_isOfFields_36
          unfold ofd
          rw [e14]
          show 0 = b2i (O.2.1 j14)
          rw [szv_no t14 c28]
          rfl
        · simp only [i_lt, i_le, i_0, i_1, i_2, i_4, i_40, i_100, i_400, i_401] at c28
          refine lv_iconst (v := 1) hx hb dX2_isOfFields_31 (by decide) ?_
          refine lv_goto (tgt := 36) hx hb dX2_isOfFields_32 (by decide) ?_
          refine W.zret (v := 1) (ty := .boolean) hx hb hr rfl (fun t ht hW => ⟨_, rfl, ?_, ht⟩) (fun _ h => absurd h List.not_mem_nil) dX2_isOfFields_36
          unfold ofd
          rw [e14]
          show 1 = b2i (O.2.1 j14)
          rw [szv_of t14 c28]
          rfl
theorem ix_v {v : Int32} {j n : Nat} (h : (v / 2).toInt = j) (hj : j ≤ 400) (hn : n < 40) : (40 * (v / 2) + nI n).toInt = 40 * j + n := by
  have e1 : (40 * (v / 2)).toInt = 40 * j := by rw [i_m40 _ (by omega) (by omega), h]
  rw [i_add _ _ (by rw [e1, nI_toInt (by omega)]; omega) (by rw [e1, nI_toInt (by omega)]; omega), e1, nI_toInt (by omega)]
theorem ix_k {k i : Int32} {j : Nat} (h : k.toInt = j) (hj : j ≤ 400) (h0 : 0 ≤ i.toInt) (hn : i.toInt < 40) : (40 * k + i).toInt = 40 * j + i.toInt := by
  have e1 : (40 * k).toInt = 40 * j := by rw [i_m40 _ (by omega) (by omega), h]
  rw [i_add _ _ (by rw [e1]; omega) (by rw [e1]; omega), e1]
set_option maxHeartbeats 4000000 in
set_option maxRecDepth 100000 in
theorem c_X2_field (l : Launch) (D : va_G) (cI cZ cT : ClassId) (h a1 a2 a3 : Nat) (md sz fl : Nat → Int32) (O : Ob) (hrm : rm O md sz fl) (mt wh : Int32) (H0 : Heap) (v : Int32) (j n : Nat) (hv : tv O v = some j) (hn : n < O.2.2.1 j) : Met l yX2_field wsX2_field ({ frames := 0, cells := 0, slots := 0, locals := 0 }) (pK D cI cZ cT [.ref h, .int v, .int (nI n)] (fun H => H = H0 ∧ my D cI cZ h a1 a2 a3 md sz fl mt wh H0)) (vp_Si (fun r => r = O.2.2.2 j n)) 0 0 (fun _ => False) := by
  refine Met.ofW (cc := cX2_field) (maxL := 3) (ret := (some .int)) (by decide) rfl ?_
  intro p e s m args below meth c s₁ B hml hv
  obtain ⟨rfl, hpic, hKN⟩ := hv
  have hK := hKN.1
  have hx := B.exec
  have hb := B.bytes
  have hr := B.returns
  have hts := atoms_spec (ws := wsX2_field) B.pre
  have hown : s.vm.findClass RX2 = some m.cls := findClass_of_methodNamed B.named
  have hlocks := B.notSynchronized
  obtain ⟨hH, hp⟩ := hpic
  subst hH
  obtain ⟨hv0, hv1, hv2, hv3, hv4⟩ := tv_half hv
  obtain ⟨-, hl40, -, hf⟩ := rm_of hrm hv2 hv3 hv4
  have hix := ix_v (n := n) hv1 hv3 (by omega)
  have hl := lv_entry ([.ref h, .int v, .int (nI n)]) (n := 3) (Nat.le_of_ble_eq_true rfl)
  rw [lg_entry_eq]
  generalize (lg_sl ([.ref h, .int v, .int (nI n)]) ++ List.replicate (3 - (lg_sl ([.ref h, .int v, .int (nI n)])).length) Slot.unset).toArray = ls at hl ⊢
  have hl : lv_has ls 3 [(0, .ref h), (1, .int v), (2, .int (nI n))] := hl
  refine lv_aload_n hx hb dX2_field_0 rfl (lv_at hl 0 rfl) ?_
  refine va_get (D := D) (ci := 2) (v := .ref a3) (C := RX2) (T := TX2) (N := 5) hx hb hts (iw_X2_field_X2) hown hK (one hp.1) 0 rfl rfl 2 (by decide) (hts (.fieldLink RX2 17 "MethodBookModel" "fields" "[I") (by decide +kernel)) (fun _ h9 => h9) rfl dX2_field_1 ?_
  refine lv_bipush (v := 40) hx hb dX2_field_4 (by decide) ?_
  refine lv_iload_n hx hb dX2_field_6 rfl (lv_at hl 1 rfl) ?_
  refine lv_iconst (v := 2) hx hb dX2_field_7 (by decide) ?_
  refine lv_idiv hx hb dX2_field_8 (by decide) ?_
  refine lv_imul hx hb dX2_field_9 ?_
  refine lv_iload_n hx hb dX2_field_10 rfl (lv_at hl 2 rfl) ?_
  refine lv_iadd hx hb dX2_field_11 ?_
  refine va_iald hx hb hK (one hp.2.2.2.1) 0 0 rfl rfl (vp_in_iff.mpr ⟨by rw [hix]; omega, by rw [hix]; omega⟩) dX2_field_12 ?_
  refine W.iret (v := (fl ((40 * (v / 2)) + (nI n)).toNatClampNeg)) hx hb hr (fun t ht hW => ⟨_, rfl, ?_, ht⟩) (fun _ h => absurd h List.not_mem_nil) dX2_field_13
  rw [i_cl, hix, show (40 * (j : Int) + (n : Int)).toNat = 40 * j + n by omega]
  exact hf n hn
set_option maxHeartbeats 4000000 in
set_option maxRecDepth 100000 in
theorem c_X2_isField (l : Launch) (D : va_G) (cI cZ cT : ClassId) (h a1 a2 a3 : Nat) (md sz fl : Nat → Int32) (O : Ob) (hrm : rm O md sz fl) (mt wh : Int32) (H0 : Heap) (k i : Int32) : Met l yX2_isField wsX2_isField ({ frames := 1, cells := 0, slots := 0, locals := 21 }) (pK D cI cZ cT [.ref h, .int k, .int i] (fun H => H = H0 ∧ my D cI cZ h a1 a2 a3 md sz fl mt wh H0)) (vp_Si (fun r => r = b2i (isF O k i))) 0 0 (fun _ => False) := by
  refine Met.ofW (cc := cX2_isField) (maxL := 3) (ret := (some .boolean)) (by decide) rfl ?_
  intro p e s m args below meth c s₁ B hml hv
  obtain ⟨rfl, hpic, hKN⟩ := hv
  have hK := hKN.1
  have hx := B.exec
  have hb := B.bytes
  have hr := B.returns
  have hts := atoms_spec (ws := wsX2_isField) B.pre
  have hown : s.vm.findClass RX2 = some m.cls := findClass_of_methodNamed B.named
  have hlocks := B.notSynchronized
  obtain ⟨hH, hp⟩ := hpic
  subst hH
  have hl := lv_entry ([.ref h, .int k, .int i]) (n := 3) (Nat.le_of_ble_eq_true rfl)
  rw [lg_entry_eq]
  generalize (lg_sl ([.ref h, .int k, .int i]) ++ List.replicate (3 - (lg_sl ([.ref h, .int k, .int i])).length) Slot.unset).toArray = ls at hl ⊢
  have hl : lv_has ls 3 [(0, .ref h), (1, .int k), (2, .int i)] := hl
  refine lv_aload_n hx hb dX2_isField_0 rfl (lv_at hl 0 rfl) ?_
  refine lv_iload_n hx hb dX2_isField_1 rfl (lv_at hl 1 rfl) ?_
  refine pq_b (va_runV (As := [.int k]) (rest := []) ⟨hx, hb, hml, hown, hts⟩ (c_X2_isMade l D cI cZ cT h a1 a2 a3 md sz fl O hrm mt wh _ k) (cwV 1 hts gX2_isField_X2_isMade rfl rfl rfl (by decide +kernel) ⟨Nat.le_of_ble_eq_true rfl, Nat.le_of_ble_eq_true rfl⟩) (pre_v ⟨rfl, hp⟩ hKN (recv hKN hp.1 rfl)) rfl rfl hl.1 rfl (lv_room (Nat.le_of_ble_eq_true rfl)) dX2_isField_2 ⟨Nat.zero_le _, Nat.zero_le _⟩) (fun b2 => ?_) (fun b2 => ?_)
  · have e2 := os_f b2
    refine lv_if_eq (tgt := 26) hx hb dX2_isField_5 (by decide) (fun _ => ?_) (fun c9 => absurd (by decide) c9)
    refine lv_iconst (v := 0) hx hb dX2_isField_26 (by decide) ?_
    refine W.zret (v := 0) (ty := .boolean) hx hb hr rfl (fun t ht hW => ⟨_, rfl, ?_, ht⟩) (fun _ h => absurd h List.not_mem_nil) dX2_isField_27
    unfold isF
    rw [e2]
    rfl
  · obtain ⟨j2, e2⟩ := os_t b2
    obtain ⟨n2, l2, u2, m2⟩ := tk_num e2
    obtain ⟨s2, t2, w2, x2⟩ := rm_of hrm l2 u2 m2
    refine lv_if_eq (tgt := 26) hx hb dX2_isField_5 (by decide) (fun c9 => absurd c9 (by decide)) (fun _ => ?_)
    refine lv_iload_n hx hb dX2_isField_8 rfl (lv_at hl 2 rfl) ?_
    refine lv_if_lt (tgt := 26) hx hb dX2_isField_9 (by decide) (fun c9 => ?_) (fun c9 => ?_)
    · simp only [i_lt, i_le, i_0, i_1, i_2, i_4, i_40, i_100, i_400, i_401] at c9
      refine lv_iconst (v := 0) hx hb dX2_isField_26 (by decide) ?_
      refine W.zret (v := 0) (ty := .boolean) hx hb hr rfl (fun t ht hW => ⟨_, rfl, ?_, ht⟩) (fun _ h => absurd h List.not_mem_nil) dX2_isField_27
      unfold isF
      rw [e2]
      exact b2i_no (by omega)
    · simp only [i_lt, i_le, i_0, i_1, i_2, i_4, i_40, i_100, i_400, i_401] at c9
      refine lv_iload_n hx hb dX2_isField_12 rfl (lv_at hl 2 rfl) ?_
      refine lv_aload_n hx hb dX2_isField_13 rfl (lv_at hl 0 rfl) ?_
      refine va_get (D := D) (ci := 2) (v := .ref a2) (C := RX2) (T := TX2) (N := 5) hx hb hts (iw_X2_isField_X2) hown hK (one hp.1) 0 rfl rfl 1 (by decide) (hts (.fieldLink RX2 13 "MethodBookModel" "sizes" "[I") (by decide +kernel)) (fun _ h9 => h9) rfl dX2_isField_14 ?_
      refine lv_iload_n hx hb dX2_isField_17 rfl (lv_at hl 1 rfl) ?_
      refine va_iald hx hb hK (one hp.2.2.1) 0 0 rfl rfl (vp_in_iff.mpr ⟨by omega, by omega⟩) dX2_isField_18 ?_
      rw [show sz k.toNatClampNeg = szv O j2 from by rw [i_cl, n2]; exact s2]
      refine lv_icmp_ge (tgt := 26) hx hb dX2_isField_19 (by decide) (fun c19 => ?_) (fun c19 => ?_)
      · simp only [i_lt, i_le, i_0, i_1, i_2, i_4, i_40, i_100, i_400, i_401] at c19
        refine lv_iconst (v := 0) hx hb dX2_isField_26 (by decide) ?_
        refine W.zret (v := 0) (ty := .boolean) hx hb hr rfl (fun t ht hW => ⟨_, rfl, ?_, ht⟩) (fun _ h => absurd h List.not_mem_nil) dX2_isField_27
        unfold isF
        rw [e2]
        exact b2i_no (fun h9 => szv_out w2 t2 (by omega) c19 h9.2)
      · simp only [i_lt, i_le, i_0, i_1, i_2, i_4, i_40, i_100, i_400, i_401] at c19
        refine lv_iconst (v := 1) hx hb dX2_isField_22 (by decide) ?_
        refine lv_goto (tgt := 27) hx hb dX2_isField_23 (by decide) ?_
        refine W.zret (v := 1) (ty := .boolean) hx hb hr rfl (fun t ht hW => ⟨_, rfl, ?_, ht⟩) (fun _ h => absurd h List.not_mem_nil) dX2_isField_27
        unfold isF
        rw [e2]
        exact b2i_yes ⟨by omega, szv_in t2 (by omega) c19⟩
set_option maxHeartbeats 4000000 in
set_option maxRecDepth 100000 in
theorem c_X2_size (l : Launch) (D : va_G) (cI cZ cT : ClassId) (h a1 a2 a3 : Nat) (md sz fl : Nat → Int32) (O : Ob) (hrm : rm O md sz fl) (mt wh : Int32) (H0 : Heap) (k : Int32) : Met l yX2_size wsX2_size ({ frames := 1, cells := 0, slots := 0, locals := 21 }) (pK D cI cZ cT [.ref h, .int k] (fun H => H = H0 ∧ my D cI cZ h a1 a2 a3 md sz fl mt wh H0)) (vp_Si (fun r => r = szo O k)) 0 0 (fun _ => False) := by
  refine Met.ofW (cc := cX2_size) (maxL := 2) (ret := (some .int)) (by decide) rfl ?_
  intro p e s m args below meth c s₁ B hml hv
  obtain ⟨rfl, hpic, hKN⟩ := hv
  have hK := hKN.1
  have hx := B.exec
  have hb := B.bytes
  have hr := B.returns
  have hts := atoms_spec (ws := wsX2_size) B.pre
  have hown : s.vm.findClass RX2 = some m.cls := findClass_of_methodNamed B.named
  have hlocks := B.notSynchronized
  obtain ⟨hH, hp⟩ := hpic
  subst hH
  have hl := lv_entry ([.ref h, .int k]) (n := 2) (Nat.le_of_ble_eq_true rfl)
  rw [lg_entry_eq]
  generalize (lg_sl ([.ref h, .int k]) ++ List.replicate (2 - (lg_sl ([.ref h, .int k])).length) Slot.unset).toArray = ls at hl ⊢
  have hl : lv_has ls 2 [(0, .ref h), (1, .int k)] := hl
  refine lv_aload_n hx hb dX2_size_0 rfl (lv_at hl 0 rfl) ?_
  refine lv_iload_n hx hb dX2_size_1 rfl (lv_at hl 1 rfl) ?_
  refine pq_b (va_runV (As := [.int k]) (rest := []) ⟨hx, hb, hml, hown, hts⟩ (c_X2_isMade l D cI cZ cT h a1 a2 a3 md sz fl O hrm mt wh _ k) (cwV 1 hts gX2_size_X2_isMade rfl rfl rfl (by decide +kernel) ⟨Nat.le_of_ble_eq_true rfl, Nat.le_of_ble_eq_true rfl⟩) (pre_v ⟨rfl, hp⟩ hKN (recv hKN hp.1 rfl)) rfl rfl hl.1 rfl (lv_room (Nat.le_of_ble_eq_true rfl)) dX2_size_2 ⟨Nat.zero_le _, Nat.zero_le _⟩) (fun b2 => ?_) (fun b2 => ?_)
  · have e2 := os_f b2
    refine lv_if_eq (tgt := 17) hx hb dX2_size_5 (by decide) (fun _ => ?_) (fun c9 => absurd (by decide) c9)
    refine lv_iconst (v := (-1)) hx hb dX2_size_17 (by decide) ?_
    refine W.iret (v := (-1)) hx hb hr (fun t ht hW => ⟨_, rfl, ?_, ht⟩) (fun _ h => absurd h List.not_mem_nil) dX2_size_18
    unfold szo
    rw [e2]
  · obtain ⟨j2, e2⟩ := os_t b2
    obtain ⟨n2, l2, u2, m2⟩ := tk_num e2
    obtain ⟨s2, t2, w2, x2⟩ := rm_of hrm l2 u2 m2
    refine lv_if_eq (tgt := 17) hx hb dX2_size_5 (by decide) (fun c9 => absurd c9 (by decide)) (fun _ => ?_)
    refine lv_aload_n hx hb dX2_size_8 rfl (lv_at hl 0 rfl) ?_
    refine va_get (D := D) (ci := 2) (v := .ref a2) (C := RX2) (T := TX2) (N := 5) hx hb hts (iw_X2_size_X2) hown hK (one hp.1) 0 rfl rfl 1 (by decide) (hts (.fieldLink RX2 13 "MethodBookModel" "sizes" "[I") (by decide +kernel)) (fun _ h9 => h9) rfl dX2_size_9 ?_
    refine lv_iload_n hx hb dX2_size_12 rfl (lv_at hl 1 rfl) ?_
    refine va_iald hx hb hK (one hp.2.2.1) 0 0 rfl rfl (vp_in_iff.mpr ⟨by omega, by omega⟩) dX2_size_13 ?_
    rw [show sz k.toNatClampNeg = szv O j2 from by rw [i_cl, n2]; exact s2]
    refine lv_goto (tgt := 18) hx hb dX2_size_14 (by decide) ?_
    refine W.iret (v := (szv O j2)) hx hb hr (fun t ht hW => ⟨_, rfl, ?_, ht⟩) (fun _ h => absurd h List.not_mem_nil) dX2_size_18
    unfold szo
    rw [e2]
    rfl
theorem isF_t {O : Ob} {k i : Int32} (h : isF O k i = true) : ∃ j, tk O k = some j ∧ 0 ≤ i.toInt ∧ i.toInt < (O.2.2.1 j : Int) := by
  unfold isF at h
  split at h
  · cases h
  · rename_i j hj
    exact ⟨j, hj, of_decide_eq_true h⟩
theorem isF_f {O : Ob} {k i : Int32} {j : Nat} (h : isF O k i = false) (hj : tk O k = some j) : ¬ (0 ≤ i.toInt ∧ i.toInt < (O.2.2.1 j : Int)) := by
  unfold isF at h
  rw [hj] at h
  exact of_decide_eq_false h
set_option maxHeartbeats 4000000 in
set_option maxRecDepth 100000 in
theorem c_X2_get (l : Launch) (D : va_G) (cI cZ cT : ClassId) (h a1 a2 a3 : Nat) (md sz fl : Nat → Int32) (O : Ob) (hrm : rm O md sz fl) (mt wh : Int32) (H0 : Heap) (k i : Int32) : Met l yX2_get wsX2_get ({ frames := 2, cells := 0, slots := 0, locals := 43 }) (pK D cI cZ cT [.ref h, .int k, .int i] (fun H => H = H0 ∧ my D cI cZ h a1 a2 a3 md sz fl mt wh H0)) (vp_Si (fun r => r = gto O k i)) 0 0 (fun _ => False) := by
  refine Met.ofW (cc := cX2_get) (maxL := 3) (ret := (some .int)) (by decide) rfl ?_
  intro p e s m args below meth c s₁ B hml hv
  obtain ⟨rfl, hpic, hKN⟩ := hv
  have hK := hKN.1
  have hx := B.exec
  have hb := B.bytes
  have hr := B.returns
  have hts := atoms_spec (ws := wsX2_get) B.pre
  have hown : s.vm.findClass RX2 = some m.cls := findClass_of_methodNamed B.named
  have hlocks := B.notSynchronized
  obtain ⟨hH, hp⟩ := hpic
  subst hH
  have hl := lv_entry ([.ref h, .int k, .int i]) (n := 3) (Nat.le_of_ble_eq_true rfl)
  rw [lg_entry_eq]
  generalize (lg_sl ([.ref h, .int k, .int i]) ++ List.replicate (3 - (lg_sl ([.ref h, .int k, .int i])).length) Slot.unset).toArray = ls at hl ⊢
  have hl : lv_has ls 3 [(0, .ref h), (1, .int k), (2, .int i)] := hl
  refine lv_aload_n hx hb dX2_get_0 rfl (lv_at hl 0 rfl) ?_
  refine lv_iload_n hx hb dX2_get_1 rfl (lv_at hl 1 rfl) ?_
  refine lv_iload_n hx hb dX2_get_2 rfl (lv_at hl 2 rfl) ?_
  refine pq_b (va_runV (As := [.int k, .int i]) (rest := []) ⟨hx, hb, hml, hown, hts⟩ (c_X2_isField l D cI cZ cT h a1 a2 a3 md sz fl O hrm mt wh _ k i) (cwV 2 hts gX2_get_X2_isField rfl rfl rfl (by decide +kernel) ⟨Nat.le_of_ble_eq_true rfl, Nat.le_of_ble_eq_true rfl⟩) (pre_v ⟨rfl, hp⟩ hKN (recv hKN hp.1 rfl)) rfl rfl hl.1 rfl (lv_room (Nat.le_of_ble_eq_true rfl)) dX2_get_3 ⟨Nat.zero_le _, Nat.zero_le _⟩) (fun b3 => ?_) (fun b3 => ?_)
  · refine lv_if_eq (tgt := 23) hx hb dX2_get_6 (by decide) (fun _ => ?_) (fun c9 => absurd (by decide) c9)
    refine lv_iconst (v := 0) hx hb dX2_get_23 (by decide) ?_
    refine W.iret (v := 0) hx hb hr (fun t ht hW => ⟨_, rfl, ?_, ht⟩) (fun _ h => absurd h List.not_mem_nil) dX2_get_24
    unfold gto
    split
    · rfl
    · rename_i j hj
      unfold fl1
      rw [if_neg (isF_f b3 hj)]
  · obtain ⟨j3, e3, y3, z3⟩ := isF_t b3
    obtain ⟨n3, l3, u3, m3⟩ := tk_num e3
    obtain ⟨s3, t3, w3, x3⟩ := rm_of hrm l3 u3 m3
    have hix := ix_k (i := i) n3 u3 y3 (by omega)
    refine lv_if_eq (tgt := 23) hx hb dX2_get_6 (by decide) (fun c9 => absurd c9 (by decide)) (fun _ => ?_)
    refine lv_aload_n hx hb dX2_get_9 rfl (lv_at hl 0 rfl) ?_
    refine va_get (D := D) (ci := 2) (v := .ref a3) (C := RX2) (T := TX2) (N := 5) hx hb hts (iw_X2_get_X2) hown hK (one hp.1) 0 rfl rfl 2 (by decide) (hts (.fieldLink RX2 17 "MethodBookModel" "fields" "[I") (by decide +kernel)) (fun _ h9 => h9) rfl dX2_get_10 ?_
    refine lv_bipush (v := 40) hx hb dX2_get_13 (by decide) ?_
    refine lv_iload_n hx hb dX2_get_15 rfl (lv_at hl 1 rfl) ?_
    refine lv_imul hx hb dX2_get_16 ?_
    refine lv_iload_n hx hb dX2_get_17 rfl (lv_at hl 2 rfl) ?_
    refine lv_iadd hx hb dX2_get_18 ?_
    refine va_iald hx hb hK (one hp.2.2.2.1) 0 0 rfl rfl (vp_in_iff.mpr ⟨by rw [hix]; omega, by rw [hix]; omega⟩) dX2_get_19 ?_
    refine lv_goto (tgt := 24) hx hb dX2_get_20 (by decide) ?_
    refine W.iret (v := (fl ((40 * k) + i).toNatClampNeg)) hx hb hr (fun t ht hW => ⟨_, rfl, ?_, ht⟩) (fun _ h => absurd h List.not_mem_nil) dX2_get_24
    unfold gto
    rw [e3]
    show _ = fl1 _ _ _
    unfold fl1
    rw [if_pos ⟨y3, z3⟩, i_cl, hix, i_cl, show (40 * (j3 : Int) + i.toInt).toNat = 40 * j3 + i.toInt.toNat by omega]
    exact x3 _ (by omega)
set_option maxHeartbeats 4000000 in
set_option maxRecDepth 100000 in
theorem c_X2_method (l : Launch) (D : va_G) (cI cZ cT : ClassId) (h a1 a2 a3 : Nat) (md sz fl : Nat → Int32) (O : Ob) (hrm : rm O md sz fl) (mt wh : Int32) (H0 : Heap) : Met l yX2_method wsX2_method ({ frames := 0, cells := 0, slots := 0, locals := 0 }) (pK D cI cZ cT [.ref h] (fun H => H = H0 ∧ my D cI cZ h a1 a2 a3 md sz fl mt wh H0)) (vp_Si (fun r => r = mt)) 0 0 (fun _ => False) := by
  refine Met.ofW (cc := cX2_method) (maxL := 1) (ret := (some .int)) (by decide) rfl ?_
  intro p e s m args below meth c s₁ B hml hv
  obtain ⟨rfl, hpic, hKN⟩ := hv
  have hK := hKN.1
  have hx := B.exec
  have hb := B.bytes
  have hr := B.returns
  have hts := atoms_spec (ws := wsX2_method) B.pre
  have hown : s.vm.findClass RX2 = some m.cls := findClass_of_methodNamed B.named
  have hlocks := B.notSynchronized
  obtain ⟨hH, hp⟩ := hpic
  subst hH
  have hl := lv_entry ([.ref h]) (n := 1) (Nat.le_of_ble_eq_true rfl)
  rw [lg_entry_eq]
  generalize (lg_sl ([.ref h]) ++ List.replicate (1 - (lg_sl ([.ref h])).length) Slot.unset).toArray = ls at hl ⊢
  have hl : lv_has ls 1 [(0, .ref h)] := hl
  refine lv_aload_n hx hb dX2_method_0 rfl (lv_at hl 0 rfl) ?_
  refine va_get (D := D) (ci := 2) (v := .int mt) (C := RX2) (T := TX2) (N := 5) hx hb hts (iw_X2_method_X2) hown hK (one hp.1) 0 rfl rfl 3 (by decide) (hts (.fieldLink RX2 39 "MethodBookModel" "method" "I") (by decide +kernel)) (fun _ h9 => h9) rfl dX2_method_1 ?_
  refine W.iret (v := mt) hx hb hr (fun t ht hW => ⟨_, rfl, ?_, ht⟩) (fun _ h => absurd h List.not_mem_nil) dX2_method_4
  rfl
set_option maxHeartbeats 4000000 in
set_option maxRecDepth 100000 in
theorem c_X2_where (l : Launch) (D : va_G) (cI cZ cT : ClassId) (h a1 a2 a3 : Nat) (md sz fl : Nat → Int32) (O : Ob) (hrm : rm O md sz fl) (mt wh : Int32) (H0 : Heap) : Met l yX2_where wsX2_where ({ frames := 0, cells := 0, slots := 0, locals := 0 }) (pK D cI cZ cT [.ref h] (fun H => H = H0 ∧ my D cI cZ h a1 a2 a3 md sz fl mt wh H0)) (vp_Si (fun r => r = wh)) 0 0 (fun _ => False) := by
  refine Met.ofW (cc := cX2_where) (maxL := 1) (ret := (some .int)) (by decide) rfl ?_
  intro p e s m args below meth c s₁ B hml hv
  obtain ⟨rfl, hpic, hKN⟩ := hv
  have hK := hKN.1
  have hx := B.exec
  have hb := B.bytes
  have hr := B.returns
  have hts := atoms_spec (ws := wsX2_where) B.pre
  have hown : s.vm.findClass RX2 = some m.cls := findClass_of_methodNamed B.named
  have hlocks := B.notSynchronized
  obtain ⟨hH, hp⟩ := hpic
  subst hH
  have hl := lv_entry ([.ref h]) (n := 1) (Nat.le_of_ble_eq_true rfl)
  rw [lg_entry_eq]
  generalize (lg_sl ([.ref h]) ++ List.replicate (1 - (lg_sl ([.ref h])).length) Slot.unset).toArray = ls at hl ⊢
  have hl : lv_has ls 1 [(0, .ref h)] := hl
  refine lv_aload_n hx hb dX2_where_0 rfl (lv_at hl 0 rfl) ?_
  refine va_get (D := D) (ci := 2) (v := .int wh) (C := RX2) (T := TX2) (N := 5) hx hb hts (iw_X2_where_X2) hown hK (one hp.1) 0 rfl rfl 4 (by decide) (hts (.fieldLink RX2 43 "MethodBookModel" "where" "I") (by decide +kernel)) (fun _ h9 => h9) rfl dX2_where_1 ?_
  refine W.iret (v := wh) hx hb hr (fun t ht hW => ⟨_, rfl, ?_, ht⟩) (fun _ h => absurd h List.not_mem_nil) dX2_where_4
  rfl
end
section
theorem iw_X2_put_X2 : ∀ w ∈ wsX20, w ∈ wsX2_put := by decide +kernel
theorem iw_X2_placeOf_X2 : ∀ w ∈ wsX20, w ∈ wsX2_placeOf := by decide +kernel
theorem iw_X2_lookUp_X2 : ∀ w ∈ wsX20, w ∈ wsX2_lookUp := by decide +kernel
theorem iw_X2_above_X2 : ∀ w ∈ wsX20, w ∈ wsX2_above := by decide +kernel
theorem iw_X2_inherits_X2 : ∀ w ∈ wsX20, w ∈ wsX2_inherits := by decide +kernel
theorem pto_nf {O : Ob} {k i v : Int32} (h : isF O k i = false) : pto O k i v = (0, O) := by
  cases e : tk O k with
  | none => exact pto_none e
  | some j => exact pto_no e (fun q => isF_f h e q.2)
theorem rm_put {O : Ob} {md sz fl : Nat → Int32} (hrm : rm O md sz fl) {j n : Nat} {v : Int32} (hl : O.2.2.1 j ≤ 40) (hn : n < O.2.2.1 j) : rm (obf O j (upd (O.2.2.2 j) n v)) md sz (upd fl (40 * j + n) v) := by
  intro k h1 h2
  rcases hrm k h1 h2 with hm | ⟨m1, m2, m3, m4, m5, m6⟩
  · exact Or.inl hm
  · refine Or.inr ⟨m1, m2, m3, m4, m5, fun i hi => ?_⟩
    have hi : i < O.2.2.1 k := hi
    show upd fl (40 * j + n) v (40 * k + i) = va_up O.2.2.2 j (upd (O.2.2.2 j) n v) k i
    by_cases hk : k = j
    · subst hk
      rw [va_up_self]
      by_cases hin : i = n
      · subst hin
        rw [pk_us, pk_us]
      · rw [pk_un (by omega), pk_un hin]
        exact m6 i hi
    · rw [va_up_ne _ _ hk, pk_un (by omega)]
      exact m6 i hi
def pmd (O : Ob) (d sel : Int32) : Option Nat := match tv O d with
  | none => none
  | some e => pm (O.2.2.2 e) (O.2.2.1 e) sel
def pmi (o : Option Nat) : Int32 := match o with
  | none => -1
  | some i => nI i
theorem pmd_some {O : Ob} {d sel : Int32} {i : Nat} (h : pmd O d sel = some i) : ∃ e, tv O d = some e ∧ pm (O.2.2.2 e) (O.2.2.1 e) sel = some i ∧ i + 1 < O.2.2.1 e := by
  unfold pmd at h
  split at h
  · cases h
  · rename_i e he
    exact ⟨e, he, h, pm_lt h⟩
theorem fnd_pmd {O : Ob} {d sel : Int32} (h : pmd O d sel = none) : fnd O d sel = none := by
  cases e : tv O d with
  | none => exact fnd_none e
  | some j =>
    refine fnd_not e ?_
    unfold pmd at h
    rw [e] at h
    exact h
theorem fof_le {O : Ob} {md sz fl : Nat → Int32} (hrm : rm O md sz fl) (v : Int32) : fof O v ≤ 40 := by
  unfold fof
  split
  · omega
  · rename_i j hj
    obtain ⟨-, -, h1, h2, h3⟩ := tv_half hj
    exact (rm_of hrm h1 h2 h3).2.1
theorem fof_lt {O : Ob} {v : Int32} (h : fof O v < 2) : cls O v = none := by
  unfold cls
  unfold fof at h
  split
  · rfl
  · rename_i j hj
    rw [hj] at h
    have h : O.2.2.1 j < 2 := h
    rw [if_neg (by omega)]
theorem fof_pos {O : Ob} {v : Int32} (h : 0 < fof O v) : ∃ j, tv O v = some j ∧ fof O v = O.2.2.1 j := by
  unfold fof at h ⊢
  split at h
  · omega
  · rename_i j hj
    exact ⟨j, hj, rfl⟩
theorem fof_ge {O : Ob} {v : Int32} (h : 2 ≤ fof O v) : ∃ j, tv O v = some j ∧ cls O v = some j ∧ 2 ≤ O.2.2.1 j := by
  obtain ⟨j, hj, e⟩ := fof_pos (O := O) (v := v) (by omega)
  rw [e] at h
  refine ⟨j, hj, ?_, h⟩
  unfold cls
  rw [hj]
  show (if _ then _ else _) = _
  rw [if_pos h]
theorem bad_0 {O : Ob} {d : Int32} (h : d = 0) : bad O d = false := by
  unfold bad
  rw [if_pos h]
theorem bad_ofd {O : Ob} {d : Int32} (h : ¬ d = 0) : bad O d = !(ofd O d) := by
  unfold bad ofd
  rw [if_neg h]
  cases tv O d <;> rfl
set_option maxHeartbeats 4000000 in
set_option maxRecDepth 100000 in
theorem c_X2_put (l : Launch) (D : va_G) (cI cZ cT : ClassId) (h a1 a2 a3 : Nat) (md sz fl : Nat → Int32) (O : Ob) (hrm : rm O md sz fl) (mt wh : Int32) (H0 : Heap) (k i v : Int32) : Met l yX2_put wsX2_put ({ frames := 2, cells := 0, slots := 0, locals := 43 }) (pK D cI cZ cT [.ref h, .int k, .int i, .int v] (fun H => H = H0 ∧ my D cI cZ h a1 a2 a3 md sz fl mt wh H0)) (pm_Qi (fun r H1 => r = (pto O k i v).1 ∧ ∃ fl' : Nat → Int32, rm (pto O k i v).2 md sz fl' ∧ my D cI cZ h a1 a2 a3 md sz fl' mt wh H1) (fun q : Nat => q = a3)) 0 0 (fun q : Nat => q = a3) := by
  refine Met.ofW (cc := cX2_put) (maxL := 4) (ret := (some .boolean)) (by decide) rfl ?_
  intro p e s m args below meth c s₁ B hml hv
  obtain ⟨rfl, hpic, hKN⟩ := hv
  have hK := hKN.1
  have hx := B.exec
  have hb := B.bytes
  have hr := B.returns
  have hts := atoms_spec (ws := wsX2_put) B.pre
  have hown : s.vm.findClass RX2 = some m.cls := findClass_of_methodNamed B.named
  have hlocks := B.notSynchronized
  obtain ⟨hH, hp⟩ := hpic
  subst hH
  have hS : va_S (fun q : Nat => q = a3) s.heap s.heap [] := va_S.rf
  have hl := lv_entry ([.ref h, .int k, .int i, .int v]) (n := 4) (Nat.le_of_ble_eq_true rfl)
  rw [lg_entry_eq]
  generalize (lg_sl ([.ref h, .int k, .int i, .int v]) ++ List.replicate (4 - (lg_sl ([.ref h, .int k, .int i, .int v])).length) Slot.unset).toArray = ls at hl ⊢
  have hl : lv_has ls 4 [(0, .ref h), (1, .int k), (2, .int i), (3, .int v)] := hl
  refine lv_aload_n hx hb dX2_put_0 rfl (lv_at hl 0 rfl) ?_
  refine lv_iload_n hx hb dX2_put_1 rfl (lv_at hl 1 rfl) ?_
  refine lv_iload_n hx hb dX2_put_2 rfl (lv_at hl 2 rfl) ?_
  refine pq_b (va_runV (As := [.int k, .int i]) (rest := []) ⟨hx, hb, hml, hown, hts⟩ (c_X2_isField l D cI cZ cT h a1 a2 a3 md sz fl O hrm mt wh _ k i) (cwV 2 hts gX2_put_X2_isField rfl rfl rfl (by decide +kernel) ⟨Nat.le_of_ble_eq_true rfl, Nat.le_of_ble_eq_true rfl⟩) (pre_v ⟨rfl, hp⟩ hKN (recv hKN hp.1 rfl)) rfl rfl hl.1 rfl (lv_room (Nat.le_of_ble_eq_true rfl)) dX2_put_3 ⟨Nat.zero_le _, Nat.zero_le _⟩) (fun b3 => ?_) (fun b3 => ?_)
  · refine lv_if_eq (tgt := 17) hx hb dX2_put_6 (by decide) (fun _ => ?_) (fun c9 => absurd (by decide) c9)
    refine lv_iconst (v := 0) hx hb dX2_put_17 (by decide) ?_
    refine W.zret (v := 0) (ty := .boolean) hx hb hr rfl (fun t ht hW => ⟨⟨_, rfl, ?_⟩, hS.F ht⟩) hS.2.2 dX2_put_18
    rw [ht]
    rw [pto_nf b3]
    exact ⟨rfl, fl, hrm, hp⟩
  · obtain ⟨j3, e3, y3, z3⟩ := isF_t b3
    obtain ⟨n3, l3, u3, m3⟩ := tk_num e3
    obtain ⟨s3, t3, w3, x3⟩ := rm_of hrm l3 u3 m3
    have hix := ix_k (i := i) n3 u3 y3 (by omega)
    refine lv_if_eq (tgt := 17) hx hb dX2_put_6 (by decide) (fun c9 => absurd c9 (by decide)) (fun _ => ?_)
    refine lv_aload_n hx hb dX2_put_9 rfl (lv_at hl 0 rfl) ?_
    refine lv_iload_n hx hb dX2_put_10 rfl (lv_at hl 3 rfl) ?_
    refine pq_b (va_runV (As := [.int v]) (rest := []) ⟨hx, hb, hml, hown, hts⟩ (c_X2_isValue l D cI cZ cT h a1 a2 a3 md sz fl O hrm mt wh _ v) (cwV 1 hts gX2_put_X2_isValue rfl rfl rfl (by decide +kernel) ⟨Nat.le_of_ble_eq_true rfl, Nat.le_of_ble_eq_true rfl⟩) (pre_v ⟨rfl, hp⟩ hKN (recv hKN hp.1 rfl)) rfl rfl hl.1 rfl (lv_room (Nat.le_of_ble_eq_true rfl)) dX2_put_11 ⟨Nat.zero_le _, Nat.zero_le _⟩) (fun b11 => ?_) (fun b11 => ?_)
    · refine lv_if_ne (tgt := 19) hx hb dX2_put_14 (by decide) (fun c9 => absurd rfl c9) (fun _ => ?_)
      refine lv_iconst (v := 0) hx hb dX2_put_17 (by decide) ?_
      refine W.zret (v := 0) (ty := .boolean) hx hb hr rfl (fun t ht hW => ⟨⟨_, rfl, ?_⟩, hS.F ht⟩) hS.2.2 dX2_put_18
      rw [ht]
      rw [pto_no e3 (by rw [b11]; simp)]
      exact ⟨rfl, fl, hrm, hp⟩
    · refine lv_if_ne (tgt := 19) hx hb dX2_put_14 (by decide) (fun _ => ?_) (fun c9 => absurd c9 (by decide))
      refine lv_aload_n hx hb dX2_put_19 rfl (lv_at hl 0 rfl) ?_
      refine va_get (D := D) (ci := 2) (v := .ref a3) (C := RX2) (T := TX2) (N := 5) hx hb hts (iw_X2_put_X2) hown hK (one hp.1) 0 rfl rfl 2 (by decide) (hts (.fieldLink RX2 17 "MethodBookModel" "fields" "[I") (by decide +kernel)) (fun _ h9 => h9) rfl dX2_put_20 ?_
      refine lv_bipush (v := 40) hx hb dX2_put_23 (by decide) ?_
      refine lv_iload_n hx hb dX2_put_25 rfl (lv_at hl 1 rfl) ?_
      refine lv_imul hx hb dX2_put_26 ?_
      refine lv_iload_n hx hb dX2_put_27 rfl (lv_at hl 2 rfl) ?_
      refine lv_iadd hx hb dX2_put_28 ?_
      refine lv_iload_n hx hb dX2_put_29 rfl (lv_at hl 3 rfl) ?_
      refine pw_iast hx hb hK hS rfl 0 hp.2.2.2.1 rfl (vp_in_iff.mpr ⟨by rw [hix]; omega, by rw [hix]; omega⟩) dX2_put_30 (fun H locs hf hz ho hS => ?_)
      refine lv_iconst (v := 1) hx hb dX2_put_31 (by decide) ?_
      refine W.zret (v := 1) (ty := .boolean) hx hb hr rfl (fun t ht hW => ⟨⟨_, rfl, ?_⟩, hS.F ht⟩) hS.2.2 dX2_put_32
      rw [ht]
      rw [pto_yes e3 ⟨b11, y3, z3⟩]
      refine ⟨rfl, _, ?_, my_3 hp hf ho⟩
      rw [i_cl (40 * k + i), hix, show (40 * (j3 : Int) + i.toInt).toNat = 40 * j3 + i.toNatClampNeg by rw [i_cl]; omega]
      exact rm_put hrm t3 (by rw [i_cl]; omega)
set_option maxHeartbeats 4000000 in
set_option maxRecDepth 100000 in
theorem c_X2_placeOf (l : Launch) (D : va_G) (cI cZ cT : ClassId) (h a1 a2 a3 : Nat) (md sz fl : Nat → Int32) (O : Ob) (hrm : rm O md sz fl) (mt wh : Int32) (H0 : Heap) (d sel : Int32) : Met l yX2_placeOf wsX2_placeOf ({ frames := 2, cells := 0, slots := 0, locals := 42 }) (pK D cI cZ cT [.ref h, .int d, .int sel] (fun H => H = H0 ∧ my D cI cZ h a1 a2 a3 md sz fl mt wh H0)) (vp_Si (fun r => r = pmi (pmd O d sel))) 0 0 (fun _ => False) := by
  refine Met.ofW (cc := cX2_placeOf) (maxL := 5) (ret := (some .int)) (by decide) rfl ?_
  intro p e9 s m args below meth c s₁ B hml hv
  obtain ⟨rfl, hpic, hKN⟩ := hv
  have hK := hKN.1
  have hx := B.exec
  have hb := B.bytes
  have hr := B.returns
  have hts := atoms_spec (ws := wsX2_placeOf) B.pre
  have hown : s.vm.findClass RX2 = some m.cls := findClass_of_methodNamed B.named
  have hlocks := B.notSynchronized
  obtain ⟨hH, hp⟩ := hpic
  subst hH
  have hl := lv_entry ([.ref h, .int d, .int sel]) (n := 5) (Nat.le_of_ble_eq_true rfl)
  rw [lg_entry_eq]
  generalize (lg_sl ([.ref h, .int d, .int sel]) ++ List.replicate (5 - (lg_sl ([.ref h, .int d, .int sel])).length) Slot.unset).toArray = ls at hl ⊢
  have hl : lv_has ls 5 [(0, .ref h), (1, .int d), (2, .int sel)] := hl
  refine lv_aload_n hx hb dX2_placeOf_0 rfl (lv_at hl 0 rfl) ?_
  refine lv_iload_n hx hb dX2_placeOf_1 rfl (lv_at hl 1 rfl) ?_
  refine pq_i (va_runV (As := [.int d]) (rest := []) ⟨hx, hb, hml, hown, hts⟩ (c_X2_fieldsOf l D cI cZ cT h a1 a2 a3 md sz fl O hrm mt wh _ d) (cwV 1 hts gX2_placeOf_X2_fieldsOf rfl rfl rfl (by decide +kernel) ⟨Nat.le_of_ble_eq_true rfl, Nat.le_of_ble_eq_true rfl⟩) (pre_v ⟨rfl, hp⟩ hKN (recv hKN hp.1 rfl)) rfl rfl hl.1 rfl (lv_room (Nat.le_of_ble_eq_true rfl)) dX2_placeOf_2 ⟨Nat.zero_le _, Nat.zero_le _⟩) (fun r2 hr2 => ?_)
  rcases htv : tv O d with _ | e
  · have f2 : r2 = nI 0 := by rw [hr2]; unfold fof; rw [htv]
    subst f2
    show W p l _ _ s m _ below meth c _ _ _ _ _ (F0 m 5 ls [.int (nI 0)])
    refine lv_istore_n (lv' := [(3, .int (nI 0)), (0, .ref h), (1, .int d), (2, .int sel)]) hx hb dX2_placeOf_5 rfl hl (by decide) rfl (fun ls hl => ?_)
    refine lv_iconst (v := 0) hx hb dX2_placeOf_6 (by decide) ?_
    refine lv_istore (lv' := [(4, .int 0), (3, .int (nI 0)), (0, .ref h), (1, .int d), (2, .int sel)]) hx hb dX2_placeOf_7 hl (by decide) rfl (fun ls hl => ?_)
    refine lv_iload hx hb dX2_placeOf_9 (lv_at hl 0 rfl) ?_
    refine lv_iconst (v := 1) hx hb dX2_placeOf_11 (by decide) ?_
    refine lv_iadd hx hb dX2_placeOf_12 ?_
    refine lv_iload_n hx hb dX2_placeOf_13 rfl (lv_at hl 1 rfl) ?_
    refine lv_icmp_ge (tgt := 37) hx hb dX2_placeOf_14 (by decide) (fun _ => ?_) (fun c9 => absurd (by decide) c9)
    refine lv_iconst (v := (-1)) hx hb dX2_placeOf_37 (by decide) ?_
    refine W.iret (v := (-1)) hx hb hr (fun t ht hW => ⟨_, rfl, ?_, ht⟩) (fun _ h => absurd h List.not_mem_nil) dX2_placeOf_38
    unfold pmd
    rw [htv]
    rfl
  · have f2 : r2 = nI (O.2.2.1 e) := by rw [hr2]; unfold fof; rw [htv]
    subst f2
    obtain ⟨-, -, l2, u2, m2⟩ := tv_half htv
    have hl40 := (rm_of hrm l2 u2 m2).2.1
    have epd : pmd O d sel = pm (O.2.2.2 e) (O.2.2.1 e) sel := by unfold pmd; rw [htv]
    show W p l _ _ s m _ below meth c _ _ _ _ _ (F0 m 5 ls [.int (nI (O.2.2.1 e))])
    refine lv_istore_n (lv' := [(3, .int (nI (O.2.2.1 e))), (0, .ref h), (1, .int d), (2, .int sel)]) hx hb dX2_placeOf_5 rfl hl (by decide) rfl (fun ls hl => ?_)
    refine lv_iconst (v := 0) hx hb dX2_placeOf_6 (by decide) ?_
    refine lv_istore (lv' := [(4, .int 0), (3, .int (nI (O.2.2.1 e))), (0, .ref h), (1, .int d), (2, .int sel)]) hx hb dX2_placeOf_7 hl (by decide) rfl (fun ls hl => ?_)
    have loop : ∀ (q i : Nat), O.2.2.1 e ≤ i + 2 * q → i ≤ 42 → pm (O.2.2.2 e) (O.2.2.1 e) sel = pmF (O.2.2.2 e) (O.2.2.1 e) sel q i → ∀ ls : Array Slot, lv_has ls 5 [(0, .ref h), (1, .int d), (2, .int sel), (3, .int (nI (O.2.2.1 e))), (4, .int (nI i))] → W p l e9 (headSpec wsX2_placeOf ({ frames := 2, cells := 0, slots := 0, locals := 42 })).room s m ([.ref h, .int d, .int sel] : List Value).toArray below meth c s.heap [] 0 0 (MQ below (vp_Si (fun r => r = pmi (pmd O d sel))) ([.ref h, .int d, .int sel] : List Value).toArray s 0 0 (fun _ => False)) (F0 m 9 ls []) := by
      intro q
      induction q with
      | zero =>
        intro i h1 h2 hq ls hl
        refine lv_iload hx hb dX2_placeOf_9 (lv_at hl 4 rfl) ?_
        refine lv_iconst (v := 1) hx hb dX2_placeOf_11 (by decide) ?_
        refine lv_iadd hx hb dX2_placeOf_12 ?_
        refine lv_iload_n hx hb dX2_placeOf_13 rfl (lv_at hl 3 rfl) ?_
        refine lv_icmp_ge (tgt := 37) hx hb dX2_placeOf_14 (by decide) (fun _ => ?_) (fun c9 => absurd (by rw [← nI_succ]; exact nI_le (by omega) (by omega)) c9)
        refine lv_iconst (v := (-1)) hx hb dX2_placeOf_37 (by decide) ?_
        refine W.iret (v := (-1)) hx hb hr (fun t ht hW => ⟨_, rfl, ?_, ht⟩) (fun _ h => absurd h List.not_mem_nil) dX2_placeOf_38
        rw [epd, hq]
        rfl
      | succ q ih =>
        intro i h1 h2 hq ls hl
        refine lv_iload hx hb dX2_placeOf_9 (lv_at hl 4 rfl) ?_
        refine lv_iconst (v := 1) hx hb dX2_placeOf_11 (by decide) ?_
        refine lv_iadd hx hb dX2_placeOf_12 ?_
        refine lv_iload_n hx hb dX2_placeOf_13 rfl (lv_at hl 3 rfl) ?_
        refine lv_icmp_ge (tgt := 37) hx hb dX2_placeOf_14 (by decide) (fun c14 => ?_) (fun c14 => ?_)
        · simp only [i_lt, i_le, i_0, i_1, i_2, i_4, i_40, i_100, i_400, i_401] at c14
          rw [← nI_succ, nI_toInt (by omega), nI_toInt (by omega)] at c14
          refine lv_iconst (v := (-1)) hx hb dX2_placeOf_37 (by decide) ?_
          refine W.iret (v := (-1)) hx hb hr (fun t ht hW => ⟨_, rfl, ?_, ht⟩) (fun _ h => absurd h List.not_mem_nil) dX2_placeOf_38
          rw [epd, hq, pmF, if_neg (by omega)]
          rfl
        · simp only [i_lt, i_le, i_0, i_1, i_2, i_4, i_40, i_100, i_400, i_401] at c14
          rw [← nI_succ, nI_toInt (by omega), nI_toInt (by omega)] at c14
          refine lv_aload_n hx hb dX2_placeOf_17 rfl (lv_at hl 0 rfl) ?_
          refine lv_iload_n hx hb dX2_placeOf_18 rfl (lv_at hl 1 rfl) ?_
          refine lv_iload hx hb dX2_placeOf_19 (lv_at hl 4 rfl) ?_
          refine pq_i (va_runV (As := [.int d, .int (nI i)]) (rest := []) ⟨hx, hb, hml, hown, hts⟩ (c_X2_field l D cI cZ cT h a1 a2 a3 md sz fl O hrm mt wh _ d e i htv (by omega)) (cwV 2 hts gX2_placeOf_X2_field rfl rfl rfl (by decide +kernel) ⟨Nat.le_of_ble_eq_true rfl, Nat.le_of_ble_eq_true rfl⟩) (pre_v ⟨rfl, hp⟩ hKN (recv hKN hp.1 rfl)) rfl rfl hl.1 rfl (lv_room (Nat.le_of_ble_eq_true rfl)) dX2_placeOf_21 ⟨Nat.zero_le _, Nat.zero_le _⟩) (fun r21 hr21 => ?_)
          subst hr21
          refine lv_iload_n hx hb dX2_placeOf_24 rfl (lv_at hl 2 rfl) ?_
          refine lv_icmp_ne (tgt := 31) hx hb dX2_placeOf_25 (by decide) (fun c25 => ?_) (fun c25 => ?_)
          · refine lv_iinc (v := ((nI i) + 2)) (lv' := [(4, .int ((nI i) + 2)), (0, .ref h), (1, .int d), (2, .int sel), (3, .int (nI (O.2.2.1 e)))]) hx hb dX2_placeOf_31 hl (k := 4) rfl rfl (by decide) rfl (fun ls hl => ?_)
            refine lv_goto (tgt := 9) hx hb dX2_placeOf_34 (by decide) ?_
            rw [nI_s2] at hl
            exact ih (i + 2) (by omega) (by omega) (by rw [hq, pmF, if_pos (by omega), if_neg c25]) _ (lv_sub hl [1, 2, 3, 4, 0] rfl)
          · refine lv_iload hx hb dX2_placeOf_28 (lv_at hl 4 rfl) ?_
            refine W.iret (v := (nI i)) hx hb hr (fun t ht hW => ⟨_, rfl, ?_, ht⟩) (fun _ h => absurd h List.not_mem_nil) dX2_placeOf_30
            rw [epd, hq, pmF, if_pos (by omega), if_pos c25]
            rfl
    exact loop 21 0 (by omega) (by omega) rfl _ (lv_sub hl [2, 3, 4, 1, 0] rfl)
set_option maxHeartbeats 4000000 in
set_option maxRecDepth 100000 in
theorem c_X2_lookUp (l : Launch) (D : va_G) (cI cZ cT : ClassId) (h a1 a2 a3 : Nat) (md sz fl : Nat → Int32) (O : Ob) (hrm : rm O md sz fl) (mt wh : Int32) (H0 : Heap) (c0 sel : Int32) : Met l yX2_lookUp wsX2_lookUp ({ frames := 3, cells := 0, slots := 0, locals := 66 }) (pK D cI cZ cT [.ref h, .int c0, .int sel] (fun H => H = H0 ∧ my D cI cZ h a1 a2 a3 md sz fl mt wh H0)) (pm_Qi (fun r H1 => r = (lk O c0 sel).1 ∧ my D cI cZ h a1 a2 a3 md sz fl (lk O c0 sel).2.1 (lk O c0 sel).2.2 H1) (fun q : Nat => q = h)) 0 0 (fun q : Nat => q = h) := by
  refine Met.ofW (cc := cX2_lookUp) (maxL := 7) (ret := (some .int)) (by decide) rfl ?_
  intro p e s m args below meth c s₁ B hml hv
  obtain ⟨rfl, hpic, hKN⟩ := hv
  have hK := hKN.1
  have hx := B.exec
  have hb := B.bytes
  have hr := B.returns
  have hts := atoms_spec (ws := wsX2_lookUp) B.pre
  have hown : s.vm.findClass RX2 = some m.cls := findClass_of_methodNamed B.named
  have hlocks := B.notSynchronized
  obtain ⟨hH, hp⟩ := hpic
  subst hH
  have hS : va_S (fun q : Nat => q = h) s.heap s.heap [] := va_S.rf
  have hl := lv_entry ([.ref h, .int c0, .int sel]) (n := 7) (Nat.le_of_ble_eq_true rfl)
  rw [lg_entry_eq]
  generalize (lg_sl ([.ref h, .int c0, .int sel]) ++ List.replicate (7 - (lg_sl ([.ref h, .int c0, .int sel])).length) Slot.unset).toArray = ls at hl ⊢
  have hl : lv_has ls 7 [(0, .ref h), (1, .int c0), (2, .int sel)] := hl
  refine lv_aload_n hx hb dX2_lookUp_0 rfl (lv_at hl 0 rfl) ?_
  refine lv_iconst (v := 0) hx hb dX2_lookUp_1 (by decide) ?_
  refine pw_put (ci := 2) (v := .int 0) (ty := .int) (C := RX2) (T := TX2) (N := 5) hx hb hts (iw_X2_lookUp_X2) tyX2 tyX2_ok nmX2 hown hK hp.1 hS rfl rfl 3 (by decide) (hts (.fieldLink RX2 39 "MethodBookModel" "method" "I") (by decide +kernel)) (fun _ h9 => h9) rfl (by decide +kernel) rfl rfl (Nat.le_of_ble_eq_true rfl) dX2_lookUp_2 (fun H locs hh hz ho hS => ?_)
  replace hp := my_h (mt' := 0) (wh' := wh) hp hh ho
  refine lv_aload_n hx hb dX2_lookUp_5 rfl (lv_at hl 0 rfl) ?_
  refine lv_iconst (v := 0) hx hb dX2_lookUp_6 (by decide) ?_
  refine pw_put (ci := 2) (v := .int 0) (ty := .int) (C := RX2) (T := TX2) (N := 5) hx hb hts (iw_X2_lookUp_X2) tyX2 tyX2_ok nmX2 hown hK hp.1 hS rfl rfl 4 (by decide) (hts (.fieldLink RX2 43 "MethodBookModel" "where" "I") (by decide +kernel)) (fun _ h9 => h9) rfl (by decide +kernel) rfl rfl (Nat.le_of_ble_eq_true rfl) dX2_lookUp_7 (fun H locs hh hz ho hS => ?_)
  replace hp := my_h (mt' := 0) (wh' := 0) hp hh ho
  refine lv_aload_n hx hb dX2_lookUp_10 rfl (lv_at hl 0 rfl) ?_
  refine lv_iload_n hx hb dX2_lookUp_11 rfl (lv_at hl 1 rfl) ?_
  refine pq_b (va_runV (As := [.int c0]) (rest := []) ⟨hx, hb, hml, hown, hts⟩ (c_X2_isValue l D cI cZ cT h a1 a2 a3 md sz fl O hrm 0 0 _ c0) (cwV 1 hts gX2_lookUp_X2_isValue rfl rfl rfl (by decide +kernel) ⟨Nat.le_of_ble_eq_true rfl, Nat.le_of_ble_eq_true rfl⟩) (pre_v ⟨rfl, hp⟩ hKN (recv hKN hp.1 rfl)) rfl rfl hl.1 rfl (lv_room (Nat.le_of_ble_eq_true rfl)) dX2_lookUp_12 ⟨Nat.zero_le _, Nat.zero_le _⟩) (fun b12 => ?_) (fun b12 => ?_)
  · refine lv_if_eq (tgt := 26) hx hb dX2_lookUp_15 (by decide) (fun _ => ?_) (fun c9 => absurd (by decide) c9)
    refine lv_bipush (v := (-2)) hx hb dX2_lookUp_26 (by decide) ?_
    refine W.iret (v := (-2)) hx hb hr (fun t ht hW => ⟨⟨_, rfl, ?_⟩, hS.F ht⟩) hS.2.2 dX2_lookUp_28
    rw [ht]
    have e9 : lk O c0 sel = (-2, 0, 0) := by
      unfold lk
      rw [if_neg (by rw [b12]; simp)]
    rw [e9]
    exact ⟨rfl, hp⟩
  · refine lv_if_eq (tgt := 26) hx hb dX2_lookUp_15 (by decide) (fun c9 => absurd c9 (by decide)) (fun _ => ?_)
    refine lv_aload_n hx hb dX2_lookUp_18 rfl (lv_at hl 0 rfl) ?_
    refine lv_iload_n hx hb dX2_lookUp_19 rfl (lv_at hl 2 rfl) ?_
    refine pq_b (va_runV (As := [.int sel]) (rest := []) ⟨hx, hb, hml, hown, hts⟩ (c_X2_isValue l D cI cZ cT h a1 a2 a3 md sz fl O hrm 0 0 _ sel) (cwV 1 hts gX2_lookUp_X2_isValue rfl rfl rfl (by decide +kernel) ⟨Nat.le_of_ble_eq_true rfl, Nat.le_of_ble_eq_true rfl⟩) (pre_v ⟨rfl, hp⟩ hKN (recv hKN hp.1 rfl)) rfl rfl hl.1 rfl (lv_room (Nat.le_of_ble_eq_true rfl)) dX2_lookUp_20 ⟨Nat.zero_le _, Nat.zero_le _⟩) (fun b20 => ?_) (fun b20 => ?_)
    · refine lv_if_ne (tgt := 29) hx hb dX2_lookUp_23 (by decide) (fun c9 => absurd rfl c9) (fun _ => ?_)
      refine lv_bipush (v := (-2)) hx hb dX2_lookUp_26 (by decide) ?_
      refine W.iret (v := (-2)) hx hb hr (fun t ht hW => ⟨⟨_, rfl, ?_⟩, hS.F ht⟩) hS.2.2 dX2_lookUp_28
      rw [ht]
      have e9 : lk O c0 sel = (-2, 0, 0) := by
        unfold lk
        rw [if_neg (by rw [b20]; simp)]
      rw [e9]
      exact ⟨rfl, hp⟩
    · refine lv_if_ne (tgt := 29) hx hb dX2_lookUp_23 (by decide) (fun _ => ?_) (fun c9 => absurd c9 (by decide))
      refine lv_iload_n hx hb dX2_lookUp_29 rfl (lv_at hl 1 rfl) ?_
      refine lv_istore_n (lv' := [(3, .int c0), (0, .ref h), (1, .int c0), (2, .int sel)]) hx hb dX2_lookUp_30 rfl hl (by decide) rfl (fun ls hl => ?_)
      refine lv_iconst (v := 0) hx hb dX2_lookUp_31 (by decide) ?_
      refine lv_istore (lv' := [(4, .int 0), (3, .int c0), (0, .ref h), (1, .int c0), (2, .int sel)]) hx hb dX2_lookUp_32 hl (by decide) rfl (fun ls hl => ?_)
      have elk : lk O c0 sel = up O sel 100 c0 0 := by
        unfold lk
        rw [if_pos ⟨b12, b20⟩]
      have loop : ∀ (q k : Nat) (c9 : Int32), k + q = 100 → lk O c0 sel = up O sel q c9 (nI k) → ∀ ls : Array Slot, lv_has ls 7 [(0, .ref h), (1, .int c0), (2, .int sel), (3, .int c9), (4, .int (nI k))] → W p l e (headSpec wsX2_lookUp ({ frames := 3, cells := 0, slots := 0, locals := 66 })).room s m ([.ref h, .int c0, .int sel] : List Value).toArray below meth c H locs 0 0 (MQ below (pm_Qi (fun r H1 => r = (lk O c0 sel).1 ∧ my D cI cZ h a1 a2 a3 md sz fl (lk O c0 sel).2.1 (lk O c0 sel).2.2 H1) (fun q : Nat => q = h)) ([.ref h, .int c0, .int sel] : List Value).toArray s 0 0 (fun q : Nat => q = h)) (F0 m 34 ls []) := by
        intro q
        induction q with
        | zero =>
          intro k c9 h1 hu ls hl
          refine lv_iload hx hb dX2_lookUp_34 (lv_at hl 4 rfl) ?_
          refine lv_bipush (v := 100) hx hb dX2_lookUp_36 (by decide) ?_
          refine lv_icmp_ge (tgt := 134) hx hb dX2_lookUp_38 (by decide) (fun _ => ?_) (fun c9 => absurd (by rw [i_le, i_100, nI_toInt (by omega)]; omega) c9)
          refine lv_iload_n hx hb dX2_lookUp_134 rfl (lv_at hl 3 rfl) ?_
          refine lv_if_ne (tgt := 142) hx hb dX2_lookUp_135 (by decide) (fun c135 => ?_) (fun c135 => ?_)
          · refine lv_bipush (v := (-2)) hx hb dX2_lookUp_142 (by decide) ?_
            refine W.iret (v := (-2)) hx hb hr (fun t ht hW => ⟨⟨_, rfl, ?_⟩, hS.F ht⟩) hS.2.2 dX2_lookUp_144
            rw [ht]
            rw [hu, up, if_neg c135]
            exact ⟨rfl, hp⟩
          · refine lv_iconst (v := (-1)) hx hb dX2_lookUp_138 (by decide) ?_
            refine lv_goto (tgt := 144) hx hb dX2_lookUp_139 (by decide) ?_
            refine W.iret (v := (-1)) hx hb hr (fun t ht hW => ⟨⟨_, rfl, ?_⟩, hS.F ht⟩) hS.2.2 dX2_lookUp_144
            rw [ht]
            rw [hu, up, if_pos c135]
            exact ⟨rfl, hp⟩
        | succ q ih =>
          intro k c9 h1 hu ls hl
          refine lv_iload hx hb dX2_lookUp_34 (lv_at hl 4 rfl) ?_
          refine lv_bipush (v := 100) hx hb dX2_lookUp_36 (by decide) ?_
          refine lv_icmp_ge (tgt := 134) hx hb dX2_lookUp_38 (by decide) (fun c9 => absurd c9 (by rw [i_le, i_100, nI_toInt (by omega)]; omega)) (fun _ => ?_)
          refine lv_iload_n hx hb dX2_lookUp_41 rfl (lv_at hl 3 rfl) ?_
          refine lv_if_ne (tgt := 47) hx hb dX2_lookUp_42 (by decide) (fun c42 => ?_) (fun c42 => ?_)
          · refine lv_aload_n hx hb dX2_lookUp_47 rfl (lv_at hl 0 rfl) ?_
            refine lv_iload_n hx hb dX2_lookUp_48 rfl (lv_at hl 3 rfl) ?_
            refine pq_i (va_runV (As := [.int c9]) (rest := []) ⟨hx, hb, hml, hown, hts⟩ (c_X2_fieldsOf l D cI cZ cT h a1 a2 a3 md sz fl O hrm 0 0 _ c9) (cwV 1 hts gX2_lookUp_X2_fieldsOf rfl rfl rfl (by decide +kernel) ⟨Nat.le_of_ble_eq_true rfl, Nat.le_of_ble_eq_true rfl⟩) (pre_v ⟨rfl, hp⟩ hKN (recv hKN hp.1 rfl)) rfl rfl hl.1 rfl (lv_room (Nat.le_of_ble_eq_true rfl)) dX2_lookUp_49 ⟨Nat.zero_le _, Nat.zero_le _⟩) (fun r49 hr49 => ?_)
            refine lv_iconst (v := 2) hx hb dX2_lookUp_52 (by decide) ?_
            refine lv_icmp_ge (tgt := 59) hx hb dX2_lookUp_53 (by decide) (fun c53 => ?_) (fun c53 => ?_)
            · simp only [i_lt, i_le, i_0, i_1, i_2, i_4, i_40, i_100, i_400, i_401] at c53
              rw [hr49, nI_toInt (by have := fof_le hrm c9; omega)] at c53
              obtain ⟨j49, e49, k49, q49⟩ := fof_ge (O := O) (v := c9) (by omega)
              refine lv_aload_n hx hb dX2_lookUp_59 rfl (lv_at hl 0 rfl) ?_
              refine lv_iload_n hx hb dX2_lookUp_60 rfl (lv_at hl 3 rfl) ?_
              refine lv_iconst (v := 1) hx hb dX2_lookUp_61 (by decide) ?_
              refine pq_i (va_runV (As := [.int c9, .int 1]) (rest := []) ⟨hx, hb, hml, hown, hts⟩ (c_X2_field l D cI cZ cT h a1 a2 a3 md sz fl O hrm 0 0 _ c9 j49 1 e49 (by omega)) (cwV 2 hts gX2_lookUp_X2_field rfl rfl rfl (by decide +kernel) ⟨Nat.le_of_ble_eq_true rfl, Nat.le_of_ble_eq_true rfl⟩) (pre_v ⟨rfl, hp⟩ hKN (recv hKN hp.1 rfl)) rfl rfl hl.1 rfl (lv_room (Nat.le_of_ble_eq_true rfl)) dX2_lookUp_62 ⟨Nat.zero_le _, Nat.zero_le _⟩) (fun r62 hr62 => ?_)
              subst hr62
              refine lv_istore (lv' := [(5, .int (O.2.2.2 j49 1)), (0, .ref h), (1, .int c0), (2, .int sel), (3, .int c9), (4, .int (nI k))]) hx hb dX2_lookUp_65 hl (by decide) rfl (fun ls hl => ?_)
              refine lv_iload hx hb dX2_lookUp_67 (lv_at hl 0 rfl) ?_
              refine lv_if_eq (tgt := 84) hx hb dX2_lookUp_69 (by decide) (fun c69 => ?_) (fun c69 => ?_)
              · have hbad : bad O (O.2.2.2 j49 1) = false := bad_0 c69
                refine lv_aload_n hx hb dX2_lookUp_84 rfl (lv_at hl 1 rfl) ?_
                refine lv_iload hx hb dX2_lookUp_85 (lv_at hl 0 rfl) ?_
                refine lv_iload_n hx hb dX2_lookUp_87 rfl (lv_at hl 3 rfl) ?_
                refine pq_i (va_runV (As := [.int (O.2.2.2 j49 1), .int sel]) (rest := []) ⟨hx, hb, hml, hown, hts⟩ (c_X2_placeOf l D cI cZ cT h a1 a2 a3 md sz fl O hrm 0 0 _ (O.2.2.2 j49 1) sel) (cwV 2 hts gX2_lookUp_X2_placeOf rfl rfl rfl (by decide +kernel) ⟨Nat.le_of_ble_eq_true rfl, Nat.le_of_ble_eq_true rfl⟩) (pre_v ⟨rfl, hp⟩ hKN (recv hKN hp.1 rfl)) rfl rfl hl.1 rfl (lv_room (Nat.le_of_ble_eq_true rfl)) dX2_lookUp_88 ⟨Nat.zero_le _, Nat.zero_le _⟩) (fun r88 hr88 => ?_)
                rcases hpm : pmd O (O.2.2.2 j49 1) sel with _ | i88
                · rw [hpm] at hr88
                  subst hr88
                  have hf := fnd_pmd hpm
                  show W p l e _ s m _ below meth c _ _ _ _ _ (F0 m 91 ls [.int (-1)])
                  refine lv_istore (lv' := [(6, .int (-1)), (5, .int (O.2.2.2 j49 1)), (0, .ref h), (1, .int c0), (2, .int sel), (3, .int c9), (4, .int (nI k))]) hx hb dX2_lookUp_91 hl (by decide) rfl (fun ls hl => ?_)
                  refine lv_iload hx hb dX2_lookUp_93 (lv_at hl 0 rfl) ?_
                  refine lv_iconst (v := (-1)) hx hb dX2_lookUp_95 (by decide) ?_
                  refine lv_icmp_eq (tgt := 121) hx hb dX2_lookUp_96 (by decide) (fun _ => ?_) (fun c9 => absurd (by decide) c9)
                  refine lv_aload_n hx hb dX2_lookUp_121 rfl (lv_at hl 2 rfl) ?_
                  refine lv_iload_n hx hb dX2_lookUp_122 rfl (lv_at hl 5 rfl) ?_
                  refine lv_iconst (v := 0) hx hb dX2_lookUp_123 (by decide) ?_
                  refine pq_i (va_runV (As := [.int c9, .int 0]) (rest := []) ⟨hx, hb, hml, hown, hts⟩ (c_X2_field l D cI cZ cT h a1 a2 a3 md sz fl O hrm 0 0 _ c9 j49 0 e49 (by omega)) (cwV 2 hts gX2_lookUp_X2_field rfl rfl rfl (by decide +kernel) ⟨Nat.le_of_ble_eq_true rfl, Nat.le_of_ble_eq_true rfl⟩) (pre_v ⟨rfl, hp⟩ hKN (recv hKN hp.1 rfl)) rfl rfl hl.1 rfl (lv_room (Nat.le_of_ble_eq_true rfl)) dX2_lookUp_124 ⟨Nat.zero_le _, Nat.zero_le _⟩) (fun r124 hr124 => ?_)
                  subst hr124
                  refine lv_istore_n (lv' := [(3, .int (O.2.2.2 j49 0)), (6, .int (-1)), (5, .int (O.2.2.2 j49 1)), (0, .ref h), (1, .int c0), (2, .int sel), (4, .int (nI k))]) hx hb dX2_lookUp_127 rfl hl (by decide) rfl (fun ls hl => ?_)
                  refine lv_iinc (v := ((nI k) + 1)) (lv' := [(4, .int ((nI k) + 1)), (3, .int (O.2.2.2 j49 0)), (6, .int (-1)), (5, .int (O.2.2.2 j49 1)), (0, .ref h), (1, .int c0), (2, .int sel)]) hx hb dX2_lookUp_128 hl (k := 6) rfl rfl (by decide) rfl (fun ls hl => ?_)
                  refine lv_goto (tgt := 34) hx hb dX2_lookUp_131 (by decide) ?_
                  rw [← nI_succ] at hl
                  exact ih (k + 1) _ (by omega) (by rw [hu, up_go c42 k49 hbad hf, nI_succ]) _ (lv_sub hl [4, 5, 6, 1, 0] rfl)
                · rw [hpm] at hr88
                  subst hr88
                  obtain ⟨e88, f88, g88, l88⟩ := pmd_some hpm
                  obtain ⟨-, -, p88, q88, w88⟩ := tv_half f88
                  have u88 := (rm_of hrm p88 q88 w88).2.1
                  have hf := fnd_some f88 g88
                  show W p l e _ s m _ below meth c _ _ _ _ _ (F0 m 91 ls [.int (nI i88)])
                  refine lv_istore (lv' := [(6, .int (nI i88)), (5, .int (O.2.2.2 j49 1)), (0, .ref h), (1, .int c0), (2, .int sel), (3, .int c9), (4, .int (nI k))]) hx hb dX2_lookUp_91 hl (by decide) rfl (fun ls hl => ?_)
                  refine lv_iload hx hb dX2_lookUp_93 (lv_at hl 0 rfl) ?_
                  refine lv_iconst (v := (-1)) hx hb dX2_lookUp_95 (by decide) ?_
                  refine lv_icmp_eq (tgt := 121) hx hb dX2_lookUp_96 (by decide) (fun c9 => absurd c9 (nI_nm1 (by omega))) (fun _ => ?_)
                  refine lv_aload_n hx hb dX2_lookUp_99 rfl (lv_at hl 2 rfl) ?_
                  refine lv_aload_n hx hb dX2_lookUp_100 rfl (lv_at hl 2 rfl) ?_
                  refine lv_iload hx hb dX2_lookUp_101 (lv_at hl 1 rfl) ?_
                  refine lv_iload hx hb dX2_lookUp_103 (lv_at hl 0 rfl) ?_
                  refine lv_iconst (v := 1) hx hb dX2_lookUp_105 (by decide) ?_
                  refine lv_iadd hx hb dX2_lookUp_106 ?_
                  rw [← nI_succ]
                  refine pq_i (va_runV (As := [.int (O.2.2.2 j49 1), .int (nI (i88 + 1))]) (rest := [.ref h]) ⟨hx, hb, hml, hown, hts⟩ (c_X2_field l D cI cZ cT h a1 a2 a3 md sz fl O hrm 0 0 _ (O.2.2.2 j49 1) e88 (i88 + 1) f88 l88) (cwV 2 hts gX2_lookUp_X2_field rfl rfl rfl (by decide +kernel) ⟨Nat.le_of_ble_eq_true rfl, Nat.le_of_ble_eq_true rfl⟩) (pre_v ⟨rfl, hp⟩ hKN (recv hKN hp.1 rfl)) rfl rfl hl.1 rfl (lv_room (Nat.le_of_ble_eq_true rfl)) dX2_lookUp_107 ⟨Nat.zero_le _, Nat.zero_le _⟩) (fun r107 hr107 => ?_)
                  subst hr107
                  refine pw_put (ci := 2) (v := .int (O.2.2.2 e88 (i88 + 1))) (ty := .int) (C := RX2) (T := TX2) (N := 5) hx hb hts (iw_X2_lookUp_X2) tyX2 tyX2_ok nmX2 hown hK hp.1 hS rfl rfl 3 (by decide) (hts (.fieldLink RX2 39 "MethodBookModel" "method" "I") (by decide +kernel)) (fun _ h9 => h9) rfl (by decide +kernel) rfl rfl (Nat.le_of_ble_eq_true rfl) dX2_lookUp_110 (fun H locs hh hz ho hS => ?_)
                  replace hp := my_h (mt' := (O.2.2.2 e88 (i88 + 1))) (wh' := 0) hp hh ho
                  refine lv_aload_n hx hb dX2_lookUp_113 rfl (lv_at hl 2 rfl) ?_
                  refine lv_iload_n hx hb dX2_lookUp_114 rfl (lv_at hl 5 rfl) ?_
                  refine pw_put (ci := 2) (v := .int c9) (ty := .int) (C := RX2) (T := TX2) (N := 5) hx hb hts (iw_X2_lookUp_X2) tyX2 tyX2_ok nmX2 hown hK hp.1 hS rfl rfl 4 (by decide) (hts (.fieldLink RX2 43 "MethodBookModel" "where" "I") (by decide +kernel)) (fun _ h9 => h9) rfl (by decide +kernel) rfl rfl (Nat.le_of_ble_eq_true rfl) dX2_lookUp_115 (fun H locs hh hz ho hS => ?_)
                  replace hp := my_h (mt' := (O.2.2.2 e88 (i88 + 1))) (wh' := c9) hp hh ho
                  refine lv_iload hx hb dX2_lookUp_118 (lv_at hl 6 rfl) ?_
                  refine W.iret (v := (nI k)) hx hb hr (fun t ht hW => ⟨⟨_, rfl, ?_⟩, hS.F ht⟩) hS.2.2 dX2_lookUp_120
                  rw [ht]
                  rw [hu, up_fnd c42 k49 hbad hf]
                  exact ⟨rfl, hp⟩
              · refine lv_aload_n hx hb dX2_lookUp_72 rfl (lv_at hl 1 rfl) ?_
                refine lv_iload hx hb dX2_lookUp_73 (lv_at hl 0 rfl) ?_
                refine pq_b (va_runV (As := [.int (O.2.2.2 j49 1)]) (rest := []) ⟨hx, hb, hml, hown, hts⟩ (c_X2_isOfFields l D cI cZ cT h a1 a2 a3 md sz fl O hrm 0 0 _ (O.2.2.2 j49 1)) (cwV 1 hts gX2_lookUp_X2_isOfFields rfl rfl rfl (by decide +kernel) ⟨Nat.le_of_ble_eq_true rfl, Nat.le_of_ble_eq_true rfl⟩) (pre_v ⟨rfl, hp⟩ hKN (recv hKN hp.1 rfl)) rfl rfl hl.1 rfl (lv_room (Nat.le_of_ble_eq_true rfl)) dX2_lookUp_75 ⟨Nat.zero_le _, Nat.zero_le _⟩) (fun b75 => ?_) (fun b75 => ?_)
                · have hbad : bad O (O.2.2.2 j49 1) = true := by rw [bad_ofd c69, b75]; rfl
                  refine lv_if_ne (tgt := 84) hx hb dX2_lookUp_78 (by decide) (fun c9 => absurd rfl c9) (fun _ => ?_)
                  refine lv_bipush (v := (-2)) hx hb dX2_lookUp_81 (by decide) ?_
                  refine W.iret (v := (-2)) hx hb hr (fun t ht hW => ⟨⟨_, rfl, ?_⟩, hS.F ht⟩) hS.2.2 dX2_lookUp_83
                  rw [ht]
                  rw [hu, up_bad c42 k49 hbad]
                  exact ⟨rfl, hp⟩
                · have hbad : bad O (O.2.2.2 j49 1) = false := by rw [bad_ofd c69, b75]; rfl
                  refine lv_if_ne (tgt := 84) hx hb dX2_lookUp_78 (by decide) (fun _ => ?_) (fun c9 => absurd c9 (by decide))
                  refine lv_aload_n hx hb dX2_lookUp_84 rfl (lv_at hl 1 rfl) ?_
                  refine lv_iload hx hb dX2_lookUp_85 (lv_at hl 0 rfl) ?_
                  refine lv_iload_n hx hb dX2_lookUp_87 rfl (lv_at hl 3 rfl) ?_
                  refine pq_i (va_runV (As := [.int (O.2.2.2 j49 1), .int sel]) (rest := []) ⟨hx, hb, hml, hown, hts⟩ (c_X2_placeOf l D cI cZ cT h a1 a2 a3 md sz fl O hrm 0 0 _ (O.2.2.2 j49 1) sel) (cwV 2 hts gX2_lookUp_X2_placeOf rfl rfl rfl (by decide +kernel) ⟨Nat.le_of_ble_eq_true rfl, Nat.le_of_ble_eq_true rfl⟩) (pre_v ⟨rfl, hp⟩ hKN (recv hKN hp.1 rfl)) rfl rfl hl.1 rfl (lv_room (Nat.le_of_ble_eq_true rfl)) dX2_lookUp_88 ⟨Nat.zero_le _, Nat.zero_le _⟩) (fun r88 hr88 => ?_)
                  rcases hpm : pmd O (O.2.2.2 j49 1) sel with _ | i88
                  · rw [hpm] at hr88
                    subst hr88
                    have hf := fnd_pmd hpm
                    show W p l e _ s m _ below meth c _ _ _ _ _ (F0 m 91 ls [.int (-1)])
                    refine lv_istore (lv' := [(6, .int (-1)), (5, .int (O.2.2.2 j49 1)), (0, .ref h), (1, .int c0), (2, .int sel), (3, .int c9), (4, .int (nI k))]) hx hb dX2_lookUp_91 hl (by decide) rfl (fun ls hl => ?_)
                    refine lv_iload hx hb dX2_lookUp_93 (lv_at hl 0 rfl) ?_
                    refine lv_iconst (v := (-1)) hx hb dX2_lookUp_95 (by decide) ?_
                    refine lv_icmp_eq (tgt := 121) hx hb dX2_lookUp_96 (by decide) (fun _ => ?_) (fun c9 => absurd (by decide) c9)
                    refine lv_aload_n hx hb dX2_lookUp_121 rfl (lv_at hl 2 rfl) ?_
                    refine lv_iload_n hx hb dX2_lookUp_122 rfl (lv_at hl 5 rfl) ?_
                    refine lv_iconst (v := 0) hx hb dX2_lookUp_123 (by decide) ?_
                    refine pq_i (va_runV (As := [.int c9, .int 0]) (rest := []) ⟨hx, hb, hml, hown, hts⟩ (c_X2_field l D cI cZ cT h a1 a2 a3 md sz fl O hrm 0 0 _ c9 j49 0 e49 (by omega)) (cwV 2 hts gX2_lookUp_X2_field rfl rfl rfl (by decide +kernel) ⟨Nat.le_of_ble_eq_true rfl, Nat.le_of_ble_eq_true rfl⟩) (pre_v ⟨rfl, hp⟩ hKN (recv hKN hp.1 rfl)) rfl rfl hl.1 rfl (lv_room (Nat.le_of_ble_eq_true rfl)) dX2_lookUp_124 ⟨Nat.zero_le _, Nat.zero_le _⟩) (fun r124 hr124 => ?_)
                    subst hr124
                    refine lv_istore_n (lv' := [(3, .int (O.2.2.2 j49 0)), (6, .int (-1)), (5, .int (O.2.2.2 j49 1)), (0, .ref h), (1, .int c0), (2, .int sel), (4, .int (nI k))]) hx hb dX2_lookUp_127 rfl hl (by decide) rfl (fun ls hl => ?_)
                    refine lv_iinc (v := ((nI k) + 1)) (lv' := [(4, .int ((nI k) + 1)), (3, .int (O.2.2.2 j49 0)), (6, .int (-1)), (5, .int (O.2.2.2 j49 1)), (0, .ref h), (1, .int c0), (2, .int sel)]) hx hb dX2_lookUp_128 hl (k := 6) rfl rfl (by decide) rfl (fun ls hl => ?_)
                    refine lv_goto (tgt := 34) hx hb dX2_lookUp_131 (by decide) ?_
                    rw [← nI_succ] at hl
                    exact ih (k + 1) _ (by omega) (by rw [hu, up_go c42 k49 hbad hf, nI_succ]) _ (lv_sub hl [4, 5, 6, 1, 0] rfl)
                  · rw [hpm] at hr88
                    subst hr88
                    obtain ⟨e88, f88, g88, l88⟩ := pmd_some hpm
                    obtain ⟨-, -, p88, q88, w88⟩ := tv_half f88
                    have u88 := (rm_of hrm p88 q88 w88).2.1
                    have hf := fnd_some f88 g88
                    show W p l e _ s m _ below meth c _ _ _ _ _ (F0 m 91 ls [.int (nI i88)])
                    refine lv_istore (lv' := [(6, .int (nI i88)), (5, .int (O.2.2.2 j49 1)), (0, .ref h), (1, .int c0), (2, .int sel), (3, .int c9), (4, .int (nI k))]) hx hb dX2_lookUp_91 hl (by decide) rfl (fun ls hl => ?_)
                    refine lv_iload hx hb dX2_lookUp_93 (lv_at hl 0 rfl) ?_
                    refine lv_iconst (v := (-1)) hx hb dX2_lookUp_95 (by decide) ?_
                    refine lv_icmp_eq (tgt := 121) hx hb dX2_lookUp_96 (by decide) (fun c9 => absurd c9 (nI_nm1 (by omega))) (fun _ => ?_)
                    refine lv_aload_n hx hb dX2_lookUp_99 rfl (lv_at hl 2 rfl) ?_
                    refine lv_aload_n hx hb dX2_lookUp_100 rfl (lv_at hl 2 rfl) ?_
                    refine lv_iload hx hb dX2_lookUp_101 (lv_at hl 1 rfl) ?_
                    refine lv_iload hx hb dX2_lookUp_103 (lv_at hl 0 rfl) ?_
                    refine lv_iconst (v := 1) hx hb dX2_lookUp_105 (by decide) ?_
                    refine lv_iadd hx hb dX2_lookUp_106 ?_
                    rw [← nI_succ]
                    refine pq_i (va_runV (As := [.int (O.2.2.2 j49 1), .int (nI (i88 + 1))]) (rest := [.ref h]) ⟨hx, hb, hml, hown, hts⟩ (c_X2_field l D cI cZ cT h a1 a2 a3 md sz fl O hrm 0 0 _ (O.2.2.2 j49 1) e88 (i88 + 1) f88 l88) (cwV 2 hts gX2_lookUp_X2_field rfl rfl rfl (by decide +kernel) ⟨Nat.le_of_ble_eq_true rfl, Nat.le_of_ble_eq_true rfl⟩) (pre_v ⟨rfl, hp⟩ hKN (recv hKN hp.1 rfl)) rfl rfl hl.1 rfl (lv_room (Nat.le_of_ble_eq_true rfl)) dX2_lookUp_107 ⟨Nat.zero_le _, Nat.zero_le _⟩) (fun r107 hr107 => ?_)
                    subst hr107
                    refine pw_put (ci := 2) (v := .int (O.2.2.2 e88 (i88 + 1))) (ty := .int) (C := RX2) (T := TX2) (N := 5) hx hb hts (iw_X2_lookUp_X2) tyX2 tyX2_ok nmX2 hown hK hp.1 hS rfl rfl 3 (by decide) (hts (.fieldLink RX2 39 "MethodBookModel" "method" "I") (by decide +kernel)) (fun _ h9 => h9) rfl (by decide +kernel) rfl rfl (Nat.le_of_ble_eq_true rfl) dX2_lookUp_110 (fun H locs hh hz ho hS => ?_)
                    replace hp := my_h (mt' := (O.2.2.2 e88 (i88 + 1))) (wh' := 0) hp hh ho
                    refine lv_aload_n hx hb dX2_lookUp_113 rfl (lv_at hl 2 rfl) ?_
                    refine lv_iload_n hx hb dX2_lookUp_114 rfl (lv_at hl 5 rfl) ?_
                    refine pw_put (ci := 2) (v := .int c9) (ty := .int) (C := RX2) (T := TX2) (N := 5) hx hb hts (iw_X2_lookUp_X2) tyX2 tyX2_ok nmX2 hown hK hp.1 hS rfl rfl 4 (by decide) (hts (.fieldLink RX2 43 "MethodBookModel" "where" "I") (by decide +kernel)) (fun _ h9 => h9) rfl (by decide +kernel) rfl rfl (Nat.le_of_ble_eq_true rfl) dX2_lookUp_115 (fun H locs hh hz ho hS => ?_)
                    replace hp := my_h (mt' := (O.2.2.2 e88 (i88 + 1))) (wh' := c9) hp hh ho
                    refine lv_iload hx hb dX2_lookUp_118 (lv_at hl 6 rfl) ?_
                    refine W.iret (v := (nI k)) hx hb hr (fun t ht hW => ⟨⟨_, rfl, ?_⟩, hS.F ht⟩) hS.2.2 dX2_lookUp_120
                    rw [ht]
                    rw [hu, up_fnd c42 k49 hbad hf]
                    exact ⟨rfl, hp⟩
            · simp only [i_lt, i_le, i_0, i_1, i_2, i_4, i_40, i_100, i_400, i_401] at c53
              rw [hr49, nI_toInt (by have := fof_le hrm c9; omega)] at c53
              have k49 := fof_lt (O := O) (v := c9) (by omega)
              refine lv_bipush (v := (-2)) hx hb dX2_lookUp_56 (by decide) ?_
              refine W.iret (v := (-2)) hx hb hr (fun t ht hW => ⟨⟨_, rfl, ?_⟩, hS.F ht⟩) hS.2.2 dX2_lookUp_58
              rw [ht]
              rw [hu, up_none c42 k49]
              exact ⟨rfl, hp⟩
          · refine lv_iconst (v := (-1)) hx hb dX2_lookUp_45 (by decide) ?_
            refine W.iret (v := (-1)) hx hb hr (fun t ht hW => ⟨⟨_, rfl, ?_⟩, hS.F ht⟩) hS.2.2 dX2_lookUp_46
            rw [ht]
            rw [hu, up_nil c42]
            exact ⟨rfl, hp⟩
      exact loop 100 0 c0 (by omega) elk _ (lv_sub hl [2, 3, 4, 1, 0] rfl)
set_option maxHeartbeats 4000000 in
set_option maxRecDepth 100000 in
theorem c_X2_above (l : Launch) (D : va_G) (cI cZ cT : ClassId) (h a1 a2 a3 : Nat) (md sz fl : Nat → Int32) (O : Ob) (hrm : rm O md sz fl) (mt wh : Int32) (H0 : Heap) (sel : Int32) : Met l yX2_above wsX2_above ({ frames := 4, cells := 0, slots := 0, locals := 92 }) (pK D cI cZ cT [.ref h, .int sel] (fun H => H = H0 ∧ my D cI cZ h a1 a2 a3 md sz fl mt wh H0)) (pm_Qi (fun r H1 => r = (abv O mt wh sel).1 ∧ my D cI cZ h a1 a2 a3 md sz fl (abv O mt wh sel).2.1 (abv O mt wh sel).2.2 H1) (fun q : Nat => q = h)) 0 0 (fun q : Nat => q = h) := by
  refine Met.ofW (cc := cX2_above) (maxL := 2) (ret := (some .int)) (by decide) rfl ?_
  intro p e s m args below meth c s₁ B hml hv
  obtain ⟨rfl, hpic, hKN⟩ := hv
  have hK := hKN.1
  have hx := B.exec
  have hb := B.bytes
  have hr := B.returns
  have hts := atoms_spec (ws := wsX2_above) B.pre
  have hown : s.vm.findClass RX2 = some m.cls := findClass_of_methodNamed B.named
  have hlocks := B.notSynchronized
  obtain ⟨hH, hp⟩ := hpic
  subst hH
  have hS : va_S (fun q : Nat => q = h) s.heap s.heap [] := va_S.rf
  have hl := lv_entry ([.ref h, .int sel]) (n := 2) (Nat.le_of_ble_eq_true rfl)
  rw [lg_entry_eq]
  generalize (lg_sl ([.ref h, .int sel]) ++ List.replicate (2 - (lg_sl ([.ref h, .int sel])).length) Slot.unset).toArray = ls at hl ⊢
  have hl : lv_has ls 2 [(0, .ref h), (1, .int sel)] := hl
  refine lv_aload_n hx hb dX2_above_0 rfl (lv_at hl 0 rfl) ?_
  refine va_get (D := D) (ci := 2) (v := .int wh) (C := RX2) (T := TX2) (N := 5) hx hb hts (iw_X2_above_X2) hown hK (one hp.1) 0 rfl rfl 4 (by decide) (hts (.fieldLink RX2 43 "MethodBookModel" "where" "I") (by decide +kernel)) (fun _ h9 => h9) rfl dX2_above_1 ?_
  refine lv_if_ne (tgt := 9) hx hb dX2_above_4 (by decide) (fun c4 => ?_) (fun c4 => ?_)
  · refine lv_aload_n hx hb dX2_above_9 rfl (lv_at hl 0 rfl) ?_
    refine lv_aload_n hx hb dX2_above_10 rfl (lv_at hl 0 rfl) ?_
    refine lv_aload_n hx hb dX2_above_11 rfl (lv_at hl 0 rfl) ?_
    refine va_get (D := D) (ci := 2) (v := .int wh) (C := RX2) (T := TX2) (N := 5) hx hb hts (iw_X2_above_X2) hown hK (one hp.1) 0 rfl rfl 4 (by decide) (hts (.fieldLink RX2 43 "MethodBookModel" "where" "I") (by decide +kernel)) (fun _ h9 => h9) rfl dX2_above_12 ?_
    refine pq_i (va_runV (As := [.int wh]) (rest := [.ref h]) ⟨hx, hb, hml, hown, hts⟩ (c_X2_fieldsOf l D cI cZ cT h a1 a2 a3 md sz fl O hrm mt wh _ wh) (cwV 1 hts gX2_above_X2_fieldsOf rfl rfl rfl (by decide +kernel) ⟨Nat.le_of_ble_eq_true rfl, Nat.le_of_ble_eq_true rfl⟩) (pre_v ⟨rfl, hp⟩ hKN (recv hKN hp.1 rfl)) rfl rfl hl.1 rfl (lv_room (Nat.le_of_ble_eq_true rfl)) dX2_above_15 ⟨Nat.zero_le _, Nat.zero_le _⟩) (fun r15 hr15 => ?_)
    refine lv_if_le (tgt := 33) hx hb dX2_above_18 (by decide) (fun c18 => ?_) (fun c18 => ?_)
    · simp only [i_lt, i_le, i_0, i_1, i_2, i_4, i_40, i_100, i_400, i_401] at c18
      rw [hr15, nI_toInt (by have := fof_le hrm wh; omega)] at c18
      have efab : fab O wh = 0 := by
        unfold fab
        split
        · rfl
        · rename_i j9 hj9
          unfold fof at c18
          rw [hj9] at c18
          have c18 : (O.2.2.1 j9 : Int) ≤ 0 := c18
          unfold fl1
          rw [if_neg (by omega)]
      refine lv_iconst (v := 0) hx hb dX2_above_33 (by decide) ?_
      refine lv_iload_n hx hb dX2_above_34 rfl (lv_at hl 1 rfl) ?_
      refine pm_i (va_runV (As := [.int 0, .int sel]) (rest := []) ⟨hx, hb, hml, hown, hts⟩ (c_X2_lookUp l D cI cZ cT h a1 a2 a3 md sz fl O hrm mt wh _ 0 sel) (cwV 2 hts gX2_above_X2_lookUp rfl rfl rfl (by decide +kernel) ⟨Nat.le_of_ble_eq_true rfl, Nat.le_of_ble_eq_true rfl⟩) (pre_v ⟨rfl, hp⟩ hKN (recv hKN hp.1 rfl)) rfl rfl hl.1 rfl (lv_room (Nat.le_of_ble_eq_true rfl)) dX2_above_35 ⟨Nat.zero_le _, Nat.zero_le _⟩) hS (fun q _ h9 => h9) (fun q h9 => h9) (fun r35 H locs hr35 hz hk hS => ?_)
      refine W.iret (v := r35) hx hb hr (fun t ht hW => ⟨⟨_, rfl, ?_⟩, hS.F ht⟩) hS.2.2 dX2_above_38
      rw [ht]
      have e9 : abv O mt wh sel = lk O (fab O wh) sel := by
        unfold abv
        rw [if_neg c4]
      rw [e9, efab]
      exact hr35
    · simp only [i_lt, i_le, i_0, i_1, i_2, i_4, i_40, i_100, i_400, i_401] at c18
      rw [hr15, nI_toInt (by have := fof_le hrm wh; omega)] at c18
      obtain ⟨j15, e15, f15⟩ := fof_pos (O := O) (v := wh) (by omega)
      obtain ⟨-, -, l15, u15, m15⟩ := tv_half e15
      have t15 := (rm_of hrm l15 u15 m15).2.1
      have efab : fab O wh = O.2.2.2 j15 0 := by
        unfold fab
        rw [e15]
        exact fl1_lt (i := 0) (by omega) t15
      refine lv_aload_n hx hb dX2_above_21 rfl (lv_at hl 0 rfl) ?_
      refine lv_aload_n hx hb dX2_above_22 rfl (lv_at hl 0 rfl) ?_
      refine va_get (D := D) (ci := 2) (v := .int wh) (C := RX2) (T := TX2) (N := 5) hx hb hts (iw_X2_above_X2) hown hK (one hp.1) 0 rfl rfl 4 (by decide) (hts (.fieldLink RX2 43 "MethodBookModel" "where" "I") (by decide +kernel)) (fun _ h9 => h9) rfl dX2_above_23 ?_
      refine lv_iconst (v := 0) hx hb dX2_above_26 (by decide) ?_
      refine pq_i (va_runV (As := [.int wh, .int 0]) (rest := [.ref h]) ⟨hx, hb, hml, hown, hts⟩ (c_X2_field l D cI cZ cT h a1 a2 a3 md sz fl O hrm mt wh _ wh j15 0 e15 (by omega)) (cwV 2 hts gX2_above_X2_field rfl rfl rfl (by decide +kernel) ⟨Nat.le_of_ble_eq_true rfl, Nat.le_of_ble_eq_true rfl⟩) (pre_v ⟨rfl, hp⟩ hKN (recv hKN hp.1 rfl)) rfl rfl hl.1 rfl (lv_room (Nat.le_of_ble_eq_true rfl)) dX2_above_27 ⟨Nat.zero_le _, Nat.zero_le _⟩) (fun r27 hr27 => ?_)
      subst hr27
      refine lv_goto (tgt := 34) hx hb dX2_above_30 (by decide) ?_
      refine lv_iload_n hx hb dX2_above_34 rfl (lv_at hl 1 rfl) ?_
      refine pm_i (va_runV (As := [.int (O.2.2.2 j15 0), .int sel]) (rest := []) ⟨hx, hb, hml, hown, hts⟩ (c_X2_lookUp l D cI cZ cT h a1 a2 a3 md sz fl O hrm mt wh _ (O.2.2.2 j15 0) sel) (cwV 2 hts gX2_above_X2_lookUp rfl rfl rfl (by decide +kernel) ⟨Nat.le_of_ble_eq_true rfl, Nat.le_of_ble_eq_true rfl⟩) (pre_v ⟨rfl, hp⟩ hKN (recv hKN hp.1 rfl)) rfl rfl hl.1 rfl (lv_room (Nat.le_of_ble_eq_true rfl)) dX2_above_35 ⟨Nat.zero_le _, Nat.zero_le _⟩) hS (fun q _ h9 => h9) (fun q h9 => h9) (fun r35 H locs hr35 hz hk hS => ?_)
      refine W.iret (v := r35) hx hb hr (fun t ht hW => ⟨⟨_, rfl, ?_⟩, hS.F ht⟩) hS.2.2 dX2_above_38
      rw [ht]
      have e9 : abv O mt wh sel = lk O (fab O wh) sel := by
        unfold abv
        rw [if_neg c4]
      rw [e9, efab]
      exact hr35
  · refine lv_iconst (v := (-1)) hx hb dX2_above_7 (by decide) ?_
    refine W.iret (v := (-1)) hx hb hr (fun t ht hW => ⟨⟨_, rfl, ?_⟩, hS.F ht⟩) hS.2.2 dX2_above_8
    rw [ht]
    have e9 : abv O mt wh sel = (-1, mt, wh) := by
      unfold abv
      rw [if_pos c4]
    rw [e9]
    exact ⟨rfl, hp⟩
set_option maxHeartbeats 4000000 in
set_option maxRecDepth 100000 in
theorem c_X2_inherits (l : Launch) (D : va_G) (cI cZ cT : ClassId) (h a1 a2 a3 : Nat) (md sz fl : Nat → Int32) (O : Ob) (hrm : rm O md sz fl) (mt wh : Int32) (H0 : Heap) (c0 d : Int32) : Met l yX2_inherits wsX2_inherits ({ frames := 2, cells := 0, slots := 0, locals := 42 }) (pK D cI cZ cT [.ref h, .int c0, .int d] (fun H => H = H0 ∧ my D cI cZ h a1 a2 a3 md sz fl mt wh H0)) (vp_Si (fun r => r = b2i (inhs O c0 d))) 0 0 (fun _ => False) := by
  refine Met.ofW (cc := cX2_inherits) (maxL := 5) (ret := (some .boolean)) (by decide) rfl ?_
  intro p e s m args below meth c s₁ B hml hv
  obtain ⟨rfl, hpic, hKN⟩ := hv
  have hK := hKN.1
  have hx := B.exec
  have hb := B.bytes
  have hr := B.returns
  have hts := atoms_spec (ws := wsX2_inherits) B.pre
  have hown : s.vm.findClass RX2 = some m.cls := findClass_of_methodNamed B.named
  have hlocks := B.notSynchronized
  obtain ⟨hH, hp⟩ := hpic
  subst hH
  have hl := lv_entry ([.ref h, .int c0, .int d]) (n := 5) (Nat.le_of_ble_eq_true rfl)
  rw [lg_entry_eq]
  generalize (lg_sl ([.ref h, .int c0, .int d]) ++ List.replicate (5 - (lg_sl ([.ref h, .int c0, .int d])).length) Slot.unset).toArray = ls at hl ⊢
  have hl : lv_has ls 5 [(0, .ref h), (1, .int c0), (2, .int d)] := hl
  refine lv_aload_n hx hb dX2_inherits_0 rfl (lv_at hl 0 rfl) ?_
  refine lv_iload_n hx hb dX2_inherits_1 rfl (lv_at hl 1 rfl) ?_
  refine pq_b (va_runV (As := [.int c0]) (rest := []) ⟨hx, hb, hml, hown, hts⟩ (c_X2_isValue l D cI cZ cT h a1 a2 a3 md sz fl O hrm mt wh _ c0) (cwV 1 hts gX2_inherits_X2_isValue rfl rfl rfl (by decide +kernel) ⟨Nat.le_of_ble_eq_true rfl, Nat.le_of_ble_eq_true rfl⟩) (pre_v ⟨rfl, hp⟩ hKN (recv hKN hp.1 rfl)) rfl rfl hl.1 rfl (lv_room (Nat.le_of_ble_eq_true rfl)) dX2_inherits_2 ⟨Nat.zero_le _, Nat.zero_le _⟩) (fun b2 => ?_) (fun b2 => ?_)
  · refine lv_if_eq (tgt := 12) hx hb dX2_inherits_5 (by decide) (fun _ => ?_) (fun c9 => absurd (by decide) c9)
    refine lv_iconst (v := 0) hx hb dX2_inherits_12 (by decide) ?_
    refine W.zret (v := 0) (ty := .boolean) hx hb hr rfl (fun t ht hW => ⟨_, rfl, ?_, ht⟩) (fun _ h => absurd h List.not_mem_nil) dX2_inherits_13
    unfold inhs
    rw [b2]
    rfl
  · refine lv_if_eq (tgt := 12) hx hb dX2_inherits_5 (by decide) (fun c9 => absurd c9 (by decide)) (fun _ => ?_)
    refine lv_iload_n hx hb dX2_inherits_8 rfl (lv_at hl 2 rfl) ?_
    refine lv_if_ne (tgt := 14) hx hb dX2_inherits_9 (by decide) (fun c9 => ?_) (fun c9 => ?_)
    · refine lv_iload_n hx hb dX2_inherits_14 rfl (lv_at hl 1 rfl) ?_
      refine lv_istore_n (lv' := [(3, .int c0), (0, .ref h), (1, .int c0), (2, .int d)]) hx hb dX2_inherits_15 rfl hl (by decide) rfl (fun ls hl => ?_)
      refine lv_iconst (v := 0) hx hb dX2_inherits_16 (by decide) ?_
      refine lv_istore (lv' := [(4, .int 0), (3, .int c0), (0, .ref h), (1, .int c0), (2, .int d)]) hx hb dX2_inherits_17 hl (by decide) rfl (fun ls hl => ?_)
      have loop : ∀ (q k : Nat) (x : Int32), k + q = 100 → inhs O c0 d = inh O d q x → ∀ ls : Array Slot, lv_has ls 5 [(0, .ref h), (1, .int c0), (2, .int d), (3, .int x), (4, .int (nI k))] → W p l e (headSpec wsX2_inherits ({ frames := 2, cells := 0, slots := 0, locals := 42 })).room s m ([.ref h, .int c0, .int d] : List Value).toArray below meth c s.heap [] 0 0 (MQ below (vp_Si (fun r => r = b2i (inhs O c0 d))) ([.ref h, .int c0, .int d] : List Value).toArray s 0 0 (fun _ => False)) (F0 m 19 ls []) := by
        intro q
        induction q with
        | zero =>
          intro k x h1 hu ls hl
          refine lv_iload hx hb dX2_inherits_19 (lv_at hl 4 rfl) ?_
          refine lv_bipush (v := 100) hx hb dX2_inherits_21 (by decide) ?_
          refine lv_icmp_ge (tgt := 57) hx hb dX2_inherits_23 (by decide) (fun _ => ?_) (fun c9 => absurd (by rw [i_le, i_100, nI_toInt (by omega)]; omega) c9)
          refine lv_iconst (v := 0) hx hb dX2_inherits_57 (by decide) ?_
          refine W.zret (v := 0) (ty := .boolean) hx hb hr rfl (fun t ht hW => ⟨_, rfl, ?_, ht⟩) (fun _ h => absurd h List.not_mem_nil) dX2_inherits_58
          rw [hu]
          rfl
        | succ q ih =>
          intro k x h1 hu ls hl
          refine lv_iload hx hb dX2_inherits_19 (lv_at hl 4 rfl) ?_
          refine lv_bipush (v := 100) hx hb dX2_inherits_21 (by decide) ?_
          refine lv_icmp_ge (tgt := 57) hx hb dX2_inherits_23 (by decide) (fun c9 => absurd c9 (by rw [i_le, i_100, nI_toInt (by omega)]; omega)) (fun _ => ?_)
          refine lv_iload_n hx hb dX2_inherits_26 rfl (lv_at hl 3 rfl) ?_
          refine lv_iload_n hx hb dX2_inherits_27 rfl (lv_at hl 2 rfl) ?_
          refine lv_icmp_ne (tgt := 33) hx hb dX2_inherits_28 (by decide) (fun c28 => ?_) (fun c28 => ?_)
          · refine lv_aload_n hx hb dX2_inherits_33 rfl (lv_at hl 0 rfl) ?_
            refine lv_iload_n hx hb dX2_inherits_34 rfl (lv_at hl 3 rfl) ?_
            refine pq_i (va_runV (As := [.int x]) (rest := []) ⟨hx, hb, hml, hown, hts⟩ (c_X2_fieldsOf l D cI cZ cT h a1 a2 a3 md sz fl O hrm mt wh _ x) (cwV 1 hts gX2_inherits_X2_fieldsOf rfl rfl rfl (by decide +kernel) ⟨Nat.le_of_ble_eq_true rfl, Nat.le_of_ble_eq_true rfl⟩) (pre_v ⟨rfl, hp⟩ hKN (recv hKN hp.1 rfl)) rfl rfl hl.1 rfl (lv_room (Nat.le_of_ble_eq_true rfl)) dX2_inherits_35 ⟨Nat.zero_le _, Nat.zero_le _⟩) (fun r35 hr35 => ?_)
            refine lv_iconst (v := 2) hx hb dX2_inherits_38 (by decide) ?_
            refine lv_icmp_ge (tgt := 44) hx hb dX2_inherits_39 (by decide) (fun c39 => ?_) (fun c39 => ?_)
            · simp only [i_lt, i_le, i_0, i_1, i_2, i_4, i_40, i_100, i_400, i_401] at c39
              rw [hr35, nI_toInt (by have := fof_le hrm x; omega)] at c39
              obtain ⟨j35, e35, k35, q35⟩ := fof_ge (O := O) (v := x) (by omega)
              refine lv_aload_n hx hb dX2_inherits_44 rfl (lv_at hl 0 rfl) ?_
              refine lv_iload_n hx hb dX2_inherits_45 rfl (lv_at hl 3 rfl) ?_
              refine lv_iconst (v := 0) hx hb dX2_inherits_46 (by decide) ?_
              refine pq_i (va_runV (As := [.int x, .int 0]) (rest := []) ⟨hx, hb, hml, hown, hts⟩ (c_X2_field l D cI cZ cT h a1 a2 a3 md sz fl O hrm mt wh _ x j35 0 e35 (by omega)) (cwV 2 hts gX2_inherits_X2_field rfl rfl rfl (by decide +kernel) ⟨Nat.le_of_ble_eq_true rfl, Nat.le_of_ble_eq_true rfl⟩) (pre_v ⟨rfl, hp⟩ hKN (recv hKN hp.1 rfl)) rfl rfl hl.1 rfl (lv_room (Nat.le_of_ble_eq_true rfl)) dX2_inherits_47 ⟨Nat.zero_le _, Nat.zero_le _⟩) (fun r47 hr47 => ?_)
              subst hr47
              refine lv_istore_n (lv' := [(3, .int (O.2.2.2 j35 0)), (0, .ref h), (1, .int c0), (2, .int d), (4, .int (nI k))]) hx hb dX2_inherits_50 rfl hl (by decide) rfl (fun ls hl => ?_)
              refine lv_iinc (v := ((nI k) + 1)) (lv' := [(4, .int ((nI k) + 1)), (3, .int (O.2.2.2 j35 0)), (0, .ref h), (1, .int c0), (2, .int d)]) hx hb dX2_inherits_51 hl (k := 4) rfl rfl (by decide) rfl (fun ls hl => ?_)
              refine lv_goto (tgt := 19) hx hb dX2_inherits_54 (by decide) ?_
              rw [← nI_succ] at hl
              exact ih (k + 1) _ (by omega) (by rw [hu, inh_go c28 k35]) _ (lv_sub hl [2, 3, 4, 1, 0] rfl)
            · simp only [i_lt, i_le, i_0, i_1, i_2, i_4, i_40, i_100, i_400, i_401] at c39
              rw [hr35, nI_toInt (by have := fof_le hrm x; omega)] at c39
              have k35 := fof_lt (O := O) (v := x) (by omega)
              refine lv_iconst (v := 0) hx hb dX2_inherits_42 (by decide) ?_
              refine W.zret (v := 0) (ty := .boolean) hx hb hr rfl (fun t ht hW => ⟨_, rfl, ?_, ht⟩) (fun _ h => absurd h List.not_mem_nil) dX2_inherits_43
              rw [hu, inh_none c28 k35]
              rfl
          · refine lv_iconst (v := 1) hx hb dX2_inherits_31 (by decide) ?_
            refine W.zret (v := 1) (ty := .boolean) hx hb hr rfl (fun t ht hW => ⟨_, rfl, ?_, ht⟩) (fun _ h => absurd h List.not_mem_nil) dX2_inherits_32
            rw [hu, inh_eq c28]
            rfl
      exact loop 100 0 c0 (by omega) (inhs_go b2 c9) _ (lv_sub hl [2, 3, 4, 1, 0] rfl)
    · refine lv_iconst (v := 0) hx hb dX2_inherits_12 (by decide) ?_
      refine W.zret (v := 0) (ty := .boolean) hx hb hr rfl (fun t ht hW => ⟨_, rfl, ?_, ht⟩) (fun _ h => absurd h List.not_mem_nil) dX2_inherits_13
      unfold inhs
      rw [decide_eq_true c9, Bool.not_true, Bool.and_false]
      rfl
end
section
theorem iw_X2_users_X2 : ∀ w ∈ wsX20, w ∈ wsX2_users := by decide +kernel
theorem iw_X2_senders_X2 : ∀ w ∈ wsX20, w ∈ wsX2_senders := by decide +kernel
theorem iw_X2_become_X2 : ∀ w ∈ wsX20, w ∈ wsX2_become := by decide +kernel
theorem iw_X2_make_X2 : ∀ w ∈ wsX20, w ∈ wsX2_make := by decide +kernel
theorem iw_X2_init_X2 : ∀ w ∈ wsX20, w ∈ wsX2_init := by decide +kernel
theorem two_int {k : Nat} (h : k ≤ 400) : (2 * nI k).toInt = 2 * k := by
  rw [i_mul2 _ (by rw [nI_toInt (by omega)]; omega) (by rw [nI_toInt (by omega)]; omega), nI_toInt (by omega)]
theorem two_yes {O : Ob} {k : Nat} (h1 : 1 ≤ k) (h2 : k ≤ 400) (hm : O.1 k = true) : tv O (2 * nI k) = some k := by
  rw [tv_even (by rw [two_int h2]; omega), two_int h2, show (2 * (k : Int)) / 2 = k by omega]
  exact tz_in (by omega) (by omega) hm
theorem two_no {O : Ob} {k : Nat} (h2 : k ≤ 400) (hm : O.1 k = false) : tv O (2 * nI k) = none := by
  rw [tv_even (by rw [two_int h2]; omega), two_int h2, show (2 * (k : Int)) / 2 = k by omega]
  exact tz_un hm
theorem two_small {O : Ob} {k : Nat} (h1 : 1 ≤ k) (h2 : k ≤ 400) (h : (fof O (2 * nI k) : Int) ≤ 1) : (O.1 k && decide (2 ≤ O.2.2.1 k)) = false := by
  cases hm : O.1 k with
  | false => rfl
  | true =>
    unfold fof at h
    rw [two_yes h1 h2 hm] at h
    have h : (O.2.2.1 k : Int) ≤ 1 := h
    rw [decide_eq_false (by omega)]
    rfl
theorem two_big {O : Ob} {k : Nat} (h1 : 1 ≤ k) (h2 : k ≤ 400) (h : ¬ (fof O (2 * nI k) : Int) ≤ 1) : O.1 k = true ∧ 2 ≤ O.2.2.1 k ∧ tv O (2 * nI k) = some k := by
  cases hm : O.1 k with
  | false =>
    unfold fof at h
    rw [two_no h2 hm] at h
    exact absurd (show ((0 : Nat) : Int) ≤ 1 by decide) h
  | true =>
    have e := two_yes h1 h2 hm
    unfold fof at h
    rw [e] at h
    have h : ¬ (O.2.2.1 k : Int) ≤ 1 := h
    exact ⟨rfl, by omega, e⟩
theorem cnt_f0 {p : Nat → Bool} {k : Nat} (h : p (k + 1) = false) : cnt p k + 0 = cnt p (k + 1) := by
  rw [cnt, h]
  rfl
set_option maxHeartbeats 4000000 in
set_option maxRecDepth 100000 in
theorem c_X2_users (l : Launch) (D : va_G) (cI cZ cT : ClassId) (h a1 a2 a3 : Nat) (md sz fl : Nat → Int32) (O : Ob) (hrm : rm O md sz fl) (mt wh : Int32) (H0 : Heap) (d : Int32) : Met l yX2_users wsX2_users ({ frames := 2, cells := 0, slots := 0, locals := 42 }) (pK D cI cZ cT [.ref h, .int d] (fun H => H = H0 ∧ my D cI cZ h a1 a2 a3 md sz fl mt wh H0)) (vp_Si (fun r => r = usr O d)) 0 0 (fun _ => False) := by
  refine Met.ofW (cc := cX2_users) (maxL := 4) (ret := (some .int)) (by decide) rfl ?_
  intro p e s m args below meth c s₁ B hml hv
  obtain ⟨rfl, hpic, hKN⟩ := hv
  have hK := hKN.1
  have hx := B.exec
  have hb := B.bytes
  have hr := B.returns
  have hts := atoms_spec (ws := wsX2_users) B.pre
  have hown : s.vm.findClass RX2 = some m.cls := findClass_of_methodNamed B.named
  have hlocks := B.notSynchronized
  obtain ⟨hH, hp⟩ := hpic
  subst hH
  have hl := lv_entry ([.ref h, .int d]) (n := 4) (Nat.le_of_ble_eq_true rfl)
  rw [lg_entry_eq]
  generalize (lg_sl ([.ref h, .int d]) ++ List.replicate (4 - (lg_sl ([.ref h, .int d])).length) Slot.unset).toArray = ls at hl ⊢
  have hl : lv_has ls 4 [(0, .ref h), (1, .int d)] := hl
  refine lv_iconst (v := 0) hx hb dX2_users_0 (by decide) ?_
  refine lv_istore_n (lv' := [(2, .int 0), (0, .ref h), (1, .int d)]) hx hb dX2_users_1 rfl hl (by decide) rfl (fun ls hl => ?_)
  refine lv_iconst (v := 1) hx hb dX2_users_2 (by decide) ?_
  refine lv_istore_n (lv' := [(3, .int 1), (2, .int 0), (0, .ref h), (1, .int d)]) hx hb dX2_users_3 rfl hl (by decide) rfl (fun ls hl => ?_)
  rcases htd : tk O d with _ | jd
  · refine lv_iload_n hx hb dX2_users_4 rfl (lv_at hl 0 rfl) ?_
    refine lv_sipush (v := 401) hx hb dX2_users_5 (by decide) ?_
    refine lv_icmp_ge (tgt := 58) hx hb dX2_users_8 (by decide) (fun c9 => absurd c9 (by decide)) (fun _ => ?_)
    refine lv_aload_n hx hb dX2_users_11 rfl (lv_at hl 2 rfl) ?_
    refine lv_iload_n hx hb dX2_users_12 rfl (lv_at hl 3 rfl) ?_
    refine pq_i (va_runV (As := [.int d]) (rest := []) ⟨hx, hb, hml, hown, hts⟩ (c_X2_isMade l D cI cZ cT h a1 a2 a3 md sz fl O hrm mt wh _ d) (cwV 1 hts gX2_users_X2_isMade rfl rfl rfl (by decide +kernel) ⟨Nat.le_of_ble_eq_true rfl, Nat.le_of_ble_eq_true rfl⟩) (pre_v ⟨rfl, hp⟩ hKN (recv hKN hp.1 rfl)) rfl rfl hl.1 rfl (lv_room (Nat.le_of_ble_eq_true rfl)) dX2_users_13 ⟨Nat.zero_le _, Nat.zero_le _⟩) (fun r13 hr13 => ?_)
    have f13 : r13 = 0 := by rw [hr13, htd]; rfl
    subst f13
    refine lv_if_eq (tgt := 58) hx hb dX2_users_16 (by decide) (fun _ => ?_) (fun c9 => absurd (by decide) c9)
    refine lv_iload_n hx hb dX2_users_58 rfl (lv_at hl 1 rfl) ?_
    refine W.iret (v := 0) hx hb hr (fun t ht hW => ⟨_, rfl, ?_, ht⟩) (fun _ h => absurd h List.not_mem_nil) dX2_users_59
    unfold usr
    rw [htd]
  · have loop : ∀ (q k : Nat), k + q = 400 → ∀ ls : Array Slot, lv_has ls 4 [(0, .ref h), (1, .int d), (2, .int (cnt (upr O (2 * d)) k)), (3, .int (nI (k + 1)))] → W p l e (headSpec wsX2_users ({ frames := 2, cells := 0, slots := 0, locals := 42 })).room s m ([.ref h, .int d] : List Value).toArray below meth c s.heap [] 0 0 (MQ below (vp_Si (fun r => r = usr O d)) ([.ref h, .int d] : List Value).toArray s 0 0 (fun _ => False)) (F0 m 4 ls []) := by
      intro q
      induction q with
      | zero =>
        intro k h1 ls hl
        refine lv_iload_n hx hb dX2_users_4 rfl (lv_at hl 3 rfl) ?_
        refine lv_sipush (v := 401) hx hb dX2_users_5 (by decide) ?_
        refine lv_icmp_ge (tgt := 58) hx hb dX2_users_8 (by decide) (fun _ => ?_) (fun c9 => absurd (by rw [i_le, i_401, nI_toInt (by omega)]; omega) c9)
        refine lv_iload_n hx hb dX2_users_58 rfl (lv_at hl 2 rfl) ?_
        refine W.iret (v := (cnt (upr O (2 * d)) k)) hx hb hr (fun t ht hW => ⟨_, rfl, ?_, ht⟩) (fun _ h => absurd h List.not_mem_nil) dX2_users_59
        have e9 : k = 400 := by omega
        subst e9
        unfold usr
        rw [htd]
      | succ q ih =>
        intro k h1 ls hl
        refine lv_iload_n hx hb dX2_users_4 rfl (lv_at hl 3 rfl) ?_
        refine lv_sipush (v := 401) hx hb dX2_users_5 (by decide) ?_
        refine lv_icmp_ge (tgt := 58) hx hb dX2_users_8 (by decide) (fun c9 => absurd c9 (by rw [i_le, i_401, nI_toInt (by omega)]; omega)) (fun _ => ?_)
        refine lv_aload_n hx hb dX2_users_11 rfl (lv_at hl 0 rfl) ?_
        refine lv_iload_n hx hb dX2_users_12 rfl (lv_at hl 1 rfl) ?_
        refine pq_i (va_runV (As := [.int d]) (rest := []) ⟨hx, hb, hml, hown, hts⟩ (c_X2_isMade l D cI cZ cT h a1 a2 a3 md sz fl O hrm mt wh _ d) (cwV 1 hts gX2_users_X2_isMade rfl rfl rfl (by decide +kernel) ⟨Nat.le_of_ble_eq_true rfl, Nat.le_of_ble_eq_true rfl⟩) (pre_v ⟨rfl, hp⟩ hKN (recv hKN hp.1 rfl)) rfl rfl hl.1 rfl (lv_room (Nat.le_of_ble_eq_true rfl)) dX2_users_13 ⟨Nat.zero_le _, Nat.zero_le _⟩) (fun r13 hr13 => ?_)
        have f13 : r13 = 1 := by rw [hr13, htd]; rfl
        subst f13
        refine lv_if_eq (tgt := 58) hx hb dX2_users_16 (by decide) (fun c9 => absurd c9 (by decide)) (fun _ => ?_)
        refine lv_iload_n hx hb dX2_users_19 rfl (lv_at hl 2 rfl) ?_
        refine lv_aload_n hx hb dX2_users_20 rfl (lv_at hl 0 rfl) ?_
        refine lv_iconst (v := 2) hx hb dX2_users_21 (by decide) ?_
        refine lv_iload_n hx hb dX2_users_22 rfl (lv_at hl 3 rfl) ?_
        refine lv_imul hx hb dX2_users_23 ?_
        refine pq_i (va_runV (As := [.int (2 * (nI (k + 1)))]) (rest := [.int (cnt (upr O (2 * d)) k)]) ⟨hx, hb, hml, hown, hts⟩ (c_X2_fieldsOf l D cI cZ cT h a1 a2 a3 md sz fl O hrm mt wh _ (2 * nI (k + 1))) (cwV 1 hts gX2_users_X2_fieldsOf rfl rfl rfl (by decide +kernel) ⟨Nat.le_of_ble_eq_true rfl, Nat.le_of_ble_eq_true rfl⟩) (pre_v ⟨rfl, hp⟩ hKN (recv hKN hp.1 rfl)) rfl rfl hl.1 rfl (lv_room (Nat.le_of_ble_eq_true rfl)) dX2_users_24 ⟨Nat.zero_le _, Nat.zero_le _⟩) (fun r24 hr24 => ?_)
        refine lv_iconst (v := 1) hx hb dX2_users_27 (by decide) ?_
        refine lv_icmp_le (tgt := 49) hx hb dX2_users_28 (by decide) (fun c28 => ?_) (fun c28 => ?_)
        · simp only [i_lt, i_le, i_0, i_1, i_2, i_4, i_40, i_100, i_400, i_401] at c28
          rw [hr24, nI_toInt (by have := fof_le hrm (2 * nI (k + 1)); omega)] at c28
          have small := two_small (O := O) (k := k + 1) (by omega) (by omega) c28
          refine lv_iconst (v := 0) hx hb dX2_users_49 (by decide) ?_
          refine lv_iadd hx hb dX2_users_50 ?_
          refine lv_istore_n (lv' := [(2, .int ((cnt (upr O (2 * d)) k) + 0)), (0, .ref h), (1, .int d), (3, .int (nI (k + 1)))]) hx hb dX2_users_51 rfl hl (by decide) rfl (fun ls hl => ?_)
          have ec : cnt (upr O (2 * d)) k + 0 = cnt (upr O (2 * d)) (k + 1) := cnt_f0 (by unfold upr; rw [small]; rfl)
          rw [ec] at hl
          refine lv_iinc (v := ((nI (k + 1)) + 1)) (lv' := [(3, .int ((nI (k + 1)) + 1)), (2, .int (cnt (upr O (2 * d)) (k + 1))), (0, .ref h), (1, .int d)]) hx hb dX2_users_52 hl (k := 3) rfl rfl (by decide) rfl (fun ls hl => ?_)
          refine lv_goto (tgt := 4) hx hb dX2_users_55 (by decide) ?_
          rw [← nI_succ] at hl
          exact ih (k + 1) (by omega) _ (lv_sub hl [2, 3, 1, 0] rfl)
        · simp only [i_lt, i_le, i_0, i_1, i_2, i_4, i_40, i_100, i_400, i_401] at c28
          rw [hr24, nI_toInt (by have := fof_le hrm (2 * nI (k + 1)); omega)] at c28
          obtain ⟨mk, q2, t2⟩ := two_big (O := O) (k := k + 1) (by omega) (by omega) c28
          refine lv_aload_n hx hb dX2_users_31 rfl (lv_at hl 0 rfl) ?_
          refine lv_iconst (v := 2) hx hb dX2_users_32 (by decide) ?_
          refine lv_iload_n hx hb dX2_users_33 rfl (lv_at hl 3 rfl) ?_
          refine lv_imul hx hb dX2_users_34 ?_
          refine lv_iconst (v := 1) hx hb dX2_users_35 (by decide) ?_
          refine pq_i (va_runV (As := [.int (2 * (nI (k + 1))), .int 1]) (rest := [.int (cnt (upr O (2 * d)) k)]) ⟨hx, hb, hml, hown, hts⟩ (c_X2_field l D cI cZ cT h a1 a2 a3 md sz fl O hrm mt wh _ (2 * nI (k + 1)) (k + 1) 1 t2 (by omega)) (cwV 2 hts gX2_users_X2_field rfl rfl rfl (by decide +kernel) ⟨Nat.le_of_ble_eq_true rfl, Nat.le_of_ble_eq_true rfl⟩) (pre_v ⟨rfl, hp⟩ hKN (recv hKN hp.1 rfl)) rfl rfl hl.1 rfl (lv_room (Nat.le_of_ble_eq_true rfl)) dX2_users_36 ⟨Nat.zero_le _, Nat.zero_le _⟩) (fun r36 hr36 => ?_)
          subst hr36
          refine lv_iconst (v := 2) hx hb dX2_users_39 (by decide) ?_
          refine lv_iload_n hx hb dX2_users_40 rfl (lv_at hl 1 rfl) ?_
          refine lv_imul hx hb dX2_users_41 ?_
          refine lv_icmp_ne (tgt := 49) hx hb dX2_users_42 (by decide) (fun c42 => ?_) (fun c42 => ?_)
          · refine lv_iconst (v := 0) hx hb dX2_users_49 (by decide) ?_
            refine lv_iadd hx hb dX2_users_50 ?_
            refine lv_istore_n (lv' := [(2, .int ((cnt (upr O (2 * d)) k) + 0)), (0, .ref h), (1, .int d), (3, .int (nI (k + 1)))]) hx hb dX2_users_51 rfl hl (by decide) rfl (fun ls hl => ?_)
            have ec : cnt (upr O (2 * d)) k + 0 = cnt (upr O (2 * d)) (k + 1) := cnt_f0 (by unfold upr; rw [decide_eq_false c42, Bool.and_false])
            rw [ec] at hl
            refine lv_iinc (v := ((nI (k + 1)) + 1)) (lv' := [(3, .int ((nI (k + 1)) + 1)), (2, .int (cnt (upr O (2 * d)) (k + 1))), (0, .ref h), (1, .int d)]) hx hb dX2_users_52 hl (k := 3) rfl rfl (by decide) rfl (fun ls hl => ?_)
            refine lv_goto (tgt := 4) hx hb dX2_users_55 (by decide) ?_
            rw [← nI_succ] at hl
            exact ih (k + 1) (by omega) _ (lv_sub hl [2, 3, 1, 0] rfl)
          · refine lv_iconst (v := 1) hx hb dX2_users_45 (by decide) ?_
            refine lv_goto (tgt := 50) hx hb dX2_users_46 (by decide) ?_
            refine lv_iadd hx hb dX2_users_50 ?_
            refine lv_istore_n (lv' := [(2, .int ((cnt (upr O (2 * d)) k) + 1)), (0, .ref h), (1, .int d), (3, .int (nI (k + 1)))]) hx hb dX2_users_51 rfl hl (by decide) rfl (fun ls hl => ?_)
            have ec : cnt (upr O (2 * d)) k + 1 = cnt (upr O (2 * d)) (k + 1) := cnt_t (by unfold upr; rw [mk, decide_eq_true q2, decide_eq_true c42]; rfl)
            rw [ec] at hl
            refine lv_iinc (v := ((nI (k + 1)) + 1)) (lv' := [(3, .int ((nI (k + 1)) + 1)), (2, .int (cnt (upr O (2 * d)) (k + 1))), (0, .ref h), (1, .int d)]) hx hb dX2_users_52 hl (k := 3) rfl rfl (by decide) rfl (fun ls hl => ?_)
            refine lv_goto (tgt := 4) hx hb dX2_users_55 (by decide) ?_
            rw [← nI_succ] at hl
            exact ih (k + 1) (by omega) _ (lv_sub hl [2, 3, 1, 0] rfl)
    exact loop 400 0 (by omega) _ (lv_sub hl [2, 3, 1, 0] rfl)
set_option maxHeartbeats 4000000 in
set_option maxRecDepth 100000 in
theorem c_X2_senders (l : Launch) (D : va_G) (cI cZ cT : ClassId) (h a1 a2 a3 : Nat) (md sz fl : Nat → Int32) (O : Ob) (hrm : rm O md sz fl) (mt wh : Int32) (H0 : Heap) (sel : Int32) : Met l yX2_senders wsX2_senders ({ frames := 3, cells := 0, slots := 0, locals := 66 }) (pK D cI cZ cT [.ref h, .int sel] (fun H => H = H0 ∧ my D cI cZ h a1 a2 a3 md sz fl mt wh H0)) (vp_Si (fun r => r = sdr O sel)) 0 0 (fun _ => False) := by
  refine Met.ofW (cc := cX2_senders) (maxL := 4) (ret := (some .int)) (by decide) rfl ?_
  intro p e s m args below meth c s₁ B hml hv
  obtain ⟨rfl, hpic, hKN⟩ := hv
  have hK := hKN.1
  have hx := B.exec
  have hb := B.bytes
  have hr := B.returns
  have hts := atoms_spec (ws := wsX2_senders) B.pre
  have hown : s.vm.findClass RX2 = some m.cls := findClass_of_methodNamed B.named
  have hlocks := B.notSynchronized
  obtain ⟨hH, hp⟩ := hpic
  subst hH
  have hl := lv_entry ([.ref h, .int sel]) (n := 4) (Nat.le_of_ble_eq_true rfl)
  rw [lg_entry_eq]
  generalize (lg_sl ([.ref h, .int sel]) ++ List.replicate (4 - (lg_sl ([.ref h, .int sel])).length) Slot.unset).toArray = ls at hl ⊢
  have hl : lv_has ls 4 [(0, .ref h), (1, .int sel)] := hl
  refine lv_iconst (v := 0) hx hb dX2_senders_0 (by decide) ?_
  refine lv_istore_n (lv' := [(2, .int 0), (0, .ref h), (1, .int sel)]) hx hb dX2_senders_1 rfl hl (by decide) rfl (fun ls hl => ?_)
  refine lv_iconst (v := 1) hx hb dX2_senders_2 (by decide) ?_
  refine lv_istore_n (lv' := [(3, .int 1), (2, .int 0), (0, .ref h), (1, .int sel)]) hx hb dX2_senders_3 rfl hl (by decide) rfl (fun ls hl => ?_)
  have loop : ∀ (q k : Nat), k + q = 400 → ∀ ls : Array Slot, lv_has ls 4 [(0, .ref h), (1, .int sel), (2, .int (cnt (spr O sel) k)), (3, .int (nI (k + 1)))] → W p l e (headSpec wsX2_senders ({ frames := 3, cells := 0, slots := 0, locals := 66 })).room s m ([.ref h, .int sel] : List Value).toArray below meth c s.heap [] 0 0 (MQ below (vp_Si (fun r => r = sdr O sel)) ([.ref h, .int sel] : List Value).toArray s 0 0 (fun _ => False)) (F0 m 4 ls []) := by
    intro q
    induction q with
    | zero =>
      intro k h1 ls hl
      refine lv_iload_n hx hb dX2_senders_4 rfl (lv_at hl 3 rfl) ?_
      refine lv_sipush (v := 401) hx hb dX2_senders_5 (by decide) ?_
      refine lv_icmp_ge (tgt := 53) hx hb dX2_senders_8 (by decide) (fun _ => ?_) (fun c9 => absurd (by rw [i_le, i_401, nI_toInt (by omega)]; omega) c9)
      refine lv_iload_n hx hb dX2_senders_53 rfl (lv_at hl 2 rfl) ?_
      refine W.iret (v := (cnt (spr O sel) k)) hx hb hr (fun t ht hW => ⟨_, rfl, ?_, ht⟩) (fun _ h => absurd h List.not_mem_nil) dX2_senders_54
      have e9 : k = 400 := by omega
      subst e9
      rfl
    | succ q ih =>
      intro k h1 ls hl
      refine lv_iload_n hx hb dX2_senders_4 rfl (lv_at hl 3 rfl) ?_
      refine lv_sipush (v := 401) hx hb dX2_senders_5 (by decide) ?_
      refine lv_icmp_ge (tgt := 53) hx hb dX2_senders_8 (by decide) (fun c9 => absurd c9 (by rw [i_le, i_401, nI_toInt (by omega)]; omega)) (fun _ => ?_)
      refine lv_iload_n hx hb dX2_senders_11 rfl (lv_at hl 2 rfl) ?_
      refine lv_aload_n hx hb dX2_senders_12 rfl (lv_at hl 0 rfl) ?_
      refine lv_iconst (v := 2) hx hb dX2_senders_13 (by decide) ?_
      refine lv_iload_n hx hb dX2_senders_14 rfl (lv_at hl 3 rfl) ?_
      refine lv_imul hx hb dX2_senders_15 ?_
      refine pq_i (va_runV (As := [.int (2 * (nI (k + 1)))]) (rest := [.int (cnt (spr O sel) k)]) ⟨hx, hb, hml, hown, hts⟩ (c_X2_fieldsOf l D cI cZ cT h a1 a2 a3 md sz fl O hrm mt wh _ (2 * nI (k + 1))) (cwV 1 hts gX2_senders_X2_fieldsOf rfl rfl rfl (by decide +kernel) ⟨Nat.le_of_ble_eq_true rfl, Nat.le_of_ble_eq_true rfl⟩) (pre_v ⟨rfl, hp⟩ hKN (recv hKN hp.1 rfl)) rfl rfl hl.1 rfl (lv_room (Nat.le_of_ble_eq_true rfl)) dX2_senders_16 ⟨Nat.zero_le _, Nat.zero_le _⟩) (fun r16 hr16 => ?_)
      refine lv_iconst (v := 1) hx hb dX2_senders_19 (by decide) ?_
      refine lv_icmp_le (tgt := 44) hx hb dX2_senders_20 (by decide) (fun c20 => ?_) (fun c20 => ?_)
      · simp only [i_lt, i_le, i_0, i_1, i_2, i_4, i_40, i_100, i_400, i_401] at c20
        rw [hr16, nI_toInt (by have := fof_le hrm (2 * nI (k + 1)); omega)] at c20
        have small := two_small (O := O) (k := k + 1) (by omega) (by omega) c20
        refine lv_iconst (v := 0) hx hb dX2_senders_44 (by decide) ?_
        refine lv_iadd hx hb dX2_senders_45 ?_
        refine lv_istore_n (lv' := [(2, .int ((cnt (spr O sel) k) + 0)), (0, .ref h), (1, .int sel), (3, .int (nI (k + 1)))]) hx hb dX2_senders_46 rfl hl (by decide) rfl (fun ls hl => ?_)
        have ec : cnt (spr O sel) k + 0 = cnt (spr O sel) (k + 1) := cnt_f0 (by unfold spr; rw [small]; rfl)
        rw [ec] at hl
        refine lv_iinc (v := ((nI (k + 1)) + 1)) (lv' := [(3, .int ((nI (k + 1)) + 1)), (2, .int (cnt (spr O sel) (k + 1))), (0, .ref h), (1, .int sel)]) hx hb dX2_senders_47 hl (k := 3) rfl rfl (by decide) rfl (fun ls hl => ?_)
        refine lv_goto (tgt := 4) hx hb dX2_senders_50 (by decide) ?_
        rw [← nI_succ] at hl
        exact ih (k + 1) (by omega) _ (lv_sub hl [2, 3, 1, 0] rfl)
      · simp only [i_lt, i_le, i_0, i_1, i_2, i_4, i_40, i_100, i_400, i_401] at c20
        rw [hr16, nI_toInt (by have := fof_le hrm (2 * nI (k + 1)); omega)] at c20
        obtain ⟨mk, q2, t2⟩ := two_big (O := O) (k := k + 1) (by omega) (by omega) c20
        refine lv_aload_n hx hb dX2_senders_23 rfl (lv_at hl 0 rfl) ?_
        refine lv_aload_n hx hb dX2_senders_24 rfl (lv_at hl 0 rfl) ?_
        refine lv_iconst (v := 2) hx hb dX2_senders_25 (by decide) ?_
        refine lv_iload_n hx hb dX2_senders_26 rfl (lv_at hl 3 rfl) ?_
        refine lv_imul hx hb dX2_senders_27 ?_
        refine lv_iconst (v := 1) hx hb dX2_senders_28 (by decide) ?_
        refine pq_i (va_runV (As := [.int (2 * (nI (k + 1))), .int 1]) (rest := [.ref h, .int (cnt (spr O sel) k)]) ⟨hx, hb, hml, hown, hts⟩ (c_X2_field l D cI cZ cT h a1 a2 a3 md sz fl O hrm mt wh _ (2 * nI (k + 1)) (k + 1) 1 t2 (by omega)) (cwV 2 hts gX2_senders_X2_field rfl rfl rfl (by decide +kernel) ⟨Nat.le_of_ble_eq_true rfl, Nat.le_of_ble_eq_true rfl⟩) (pre_v ⟨rfl, hp⟩ hKN (recv hKN hp.1 rfl)) rfl rfl hl.1 rfl (lv_room (Nat.le_of_ble_eq_true rfl)) dX2_senders_29 ⟨Nat.zero_le _, Nat.zero_le _⟩) (fun r29 hr29 => ?_)
        subst hr29
        refine lv_iload_n hx hb dX2_senders_32 rfl (lv_at hl 1 rfl) ?_
        refine pq_i (va_runV (As := [.int (O.2.2.2 (k + 1) 1), .int sel]) (rest := [.int (cnt (spr O sel) k)]) ⟨hx, hb, hml, hown, hts⟩ (c_X2_placeOf l D cI cZ cT h a1 a2 a3 md sz fl O hrm mt wh _ (O.2.2.2 (k + 1) 1) sel) (cwV 2 hts gX2_senders_X2_placeOf rfl rfl rfl (by decide +kernel) ⟨Nat.le_of_ble_eq_true rfl, Nat.le_of_ble_eq_true rfl⟩) (pre_v ⟨rfl, hp⟩ hKN (recv hKN hp.1 rfl)) rfl rfl hl.1 rfl (lv_room (Nat.le_of_ble_eq_true rfl)) dX2_senders_33 ⟨Nat.zero_le _, Nat.zero_le _⟩) (fun r33 hr33 => ?_)
        rcases hpm : pmd O (O.2.2.2 (k + 1) 1) sel with _ | i33
        · rw [hpm] at hr33
          subst hr33
          have hf := fnd_pmd hpm
          show W p l e _ s m _ below meth c _ _ _ _ _ (F0 m 36 ls [.int (-1), .int (cnt (spr O sel) k)])
          refine lv_iconst (v := (-1)) hx hb dX2_senders_36 (by decide) ?_
          refine lv_icmp_eq (tgt := 44) hx hb dX2_senders_37 (by decide) (fun _ => ?_) (fun c9 => absurd (by decide) c9)
          refine lv_iconst (v := 0) hx hb dX2_senders_44 (by decide) ?_
          refine lv_iadd hx hb dX2_senders_45 ?_
          refine lv_istore_n (lv' := [(2, .int ((cnt (spr O sel) k) + 0)), (0, .ref h), (1, .int sel), (3, .int (nI (k + 1)))]) hx hb dX2_senders_46 rfl hl (by decide) rfl (fun ls hl => ?_)
          have ec : cnt (spr O sel) k + 0 = cnt (spr O sel) (k + 1) := cnt_f0 (by unfold spr; rw [hf, Option.isSome_none, Bool.and_false])
          rw [ec] at hl
          refine lv_iinc (v := ((nI (k + 1)) + 1)) (lv' := [(3, .int ((nI (k + 1)) + 1)), (2, .int (cnt (spr O sel) (k + 1))), (0, .ref h), (1, .int sel)]) hx hb dX2_senders_47 hl (k := 3) rfl rfl (by decide) rfl (fun ls hl => ?_)
          refine lv_goto (tgt := 4) hx hb dX2_senders_50 (by decide) ?_
          rw [← nI_succ] at hl
          exact ih (k + 1) (by omega) _ (lv_sub hl [2, 3, 1, 0] rfl)
        · rw [hpm] at hr33
          subst hr33
          obtain ⟨e33, f33, g33, l33⟩ := pmd_some hpm
          obtain ⟨-, -, p33, q33, w33⟩ := tv_half f33
          have u33 := (rm_of hrm p33 q33 w33).2.1
          have hf := fnd_some f33 g33
          show W p l e _ s m _ below meth c _ _ _ _ _ (F0 m 36 ls [.int (nI i33), .int (cnt (spr O sel) k)])
          refine lv_iconst (v := (-1)) hx hb dX2_senders_36 (by decide) ?_
          refine lv_icmp_eq (tgt := 44) hx hb dX2_senders_37 (by decide) (fun c9 => absurd c9 (nI_nm1 (by omega))) (fun _ => ?_)
          refine lv_iconst (v := 1) hx hb dX2_senders_40 (by decide) ?_
          refine lv_goto (tgt := 45) hx hb dX2_senders_41 (by decide) ?_
          refine lv_iadd hx hb dX2_senders_45 ?_
          refine lv_istore_n (lv' := [(2, .int ((cnt (spr O sel) k) + 1)), (0, .ref h), (1, .int sel), (3, .int (nI (k + 1)))]) hx hb dX2_senders_46 rfl hl (by decide) rfl (fun ls hl => ?_)
          have ec : cnt (spr O sel) k + 1 = cnt (spr O sel) (k + 1) := cnt_t (by unfold spr; rw [mk, decide_eq_true q2, hf]; rfl)
          rw [ec] at hl
          refine lv_iinc (v := ((nI (k + 1)) + 1)) (lv' := [(3, .int ((nI (k + 1)) + 1)), (2, .int (cnt (spr O sel) (k + 1))), (0, .ref h), (1, .int sel)]) hx hb dX2_senders_47 hl (k := 3) rfl rfl (by decide) rfl (fun ls hl => ?_)
          refine lv_goto (tgt := 4) hx hb dX2_senders_50 (by decide) ?_
          rw [← nI_succ] at hl
          exact ih (k + 1) (by omega) _ (lv_sub hl [2, 3, 1, 0] rfl)
  exact loop 400 0 (by omega) _ (lv_sub hl [2, 3, 1, 0] rfl)
end
section
section PZ
variable {p : Program} {l : Launch} {e : Env} {R : Room} {s : State} {m : MethodId} {args : Array Value} {below : List Frame} {meth : Method} {c : Code} {H : Heap} {locs : List Loc} {cells slots : Nat} {Q : State → Prop}
variable {cc : ByteArray} {pc : Nat} {ls : Array Slot} {rest : List Value} {D : va_G} {A : Nat → Prop} {a : Nat} {tys : List (ClassId × FieldType)} {H0 : Heap}
theorem pw_zast (hexec : p.tables.exec = Jvm.exec) (hb : c.code = cc) (hK : va_K D vwCl tys s) (hS : va_S A H0 H locs) (hAa : A a) (t0 : Nat) {cA : ClassId} {n : Nat} {f : Nat → Int32} (hP : va_at D vwCl (a, .inl (cA, n, .inl f)) H) (ht : tys[t0]? = some (cA, .boolean)) {i x : Int32} (hnx : narrow .boolean (.int x) = .int x) (hin : vp_in i n) (hdg : decode cc pc = .ok (.bastore, 1))
    (kk : ∀ (H1 : Heap) (locs1 : List Loc), va_at D vwCl (a, .inl (cA, n, .inl (upd f i.toNatClampNeg x))) H1 → H1.size = H.size → (∀ q : Nat, q ≠ a → H1[q]? = H[q]?) → va_S A H0 H1 locs1 → W p l e R s m args below meth c H1 locs1 cells slots Q (F0 m (pc + 1) ls rest)) : W p l e R s m args below meth c H locs cells slots Q (F0 m pc ls (.int x :: .int i :: .ref a :: rest)) := by
  refine W.zast hexec hb hP ((hK.2 t0 _ ht).1 n (fun j => .int (f j))) (fun q => by cases q) (by show ¬ (i < 0 ∨ (arrV _ _ _).slots.size ≤ _); rw [arrV_size]; exact hin) rfl rfl hdg fun H1 e z oq => ?_
  refine kk H1 _ ?_ z oq (hS.put z oq hAa)
  show H1[a]? = some (vp_cell _ _)
  rw [e, hnx]
  rw [vp_cell_i, vp_cell_i, arrV_store]
  congr 2
  funext q
  by_cases hq : q = i.toNatClampNeg
  · subst hq
    simp [updV, upd]
  · simp [updV, upd, hq]
end PZ
theorem szv_exit {O : Ob} {k : Nat} (hb : O.2.1 k = false → O.2.2.1 k = 0) (hl : O.2.2.1 k ≤ 40) : szv O k ≤ nI (O.2.2.1 k) := by
  rw [i_le, nI_toInt (by omega)]
  unfold szv
  by_cases ho : O.2.1 k = true
  · rw [if_pos ho, nI_toInt (by omega)]
    omega
  · rw [if_neg ho, i_m1]
    omega
theorem szv_stay {O : Ob} {k i : Nat} (hb : O.2.1 k = false → O.2.2.1 k = 0) (hl : O.2.2.1 k ≤ 40) (hi : i < O.2.2.1 k) : ¬ szv O k ≤ nI i := by
  rw [i_le, nI_toInt (by omega)]
  unfold szv
  by_cases ho : O.2.1 k = true
  · rw [if_pos ho, nI_toInt (by omega)]
    omega
  · have := hb (by simpa using ho)
    omega
theorem obf_obf (O : Ob) (j : Nat) (g g' : Nat → Int32) : obf (obf O j g) j g' = obf O j g' := by
  have e : va_up (va_up O.2.2.2 j g) j g' = va_up O.2.2.2 j g' := by
    funext k
    by_cases hk : k = j
    · rw [hk, va_up_self, va_up_self]
    · rw [va_up_ne _ _ hk, va_up_ne _ _ hk, va_up_ne _ _ hk]
  show (O.1, O.2.1, O.2.2.1, va_up (va_up O.2.2.2 j g) j g') = (O.1, O.2.1, O.2.2.1, va_up O.2.2.2 j g')
  rw [e]
theorem rm_sw {X : Ob} {md sz fl : Nat → Int32} {K i : Nat} {g : Nat → Int32} {v : Int32} (hrm : rm (obf X K g) md sz fl) (hl : X.2.2.1 K ≤ 40) (hi : i < X.2.2.1 K) : rm (obf X K (upd g i v)) md sz (upd fl (40 * K + i) v) := by
  have h := rm_put (v := v) hrm (j := K) (n := i) hl hi
  rw [obf_obf] at h
  have e : (obf X K g).2.2.2 K = g := va_up_self _ _ _
  rw [e] at h
  exact h
theorem sw_1 (x y : Int32) : x + y - x = y := by rw [Int32.add_comm, Int32.add_sub_cancel]
theorem sw_2 (x y : Int32) : x + y - y = x := Int32.add_sub_cancel x y
theorem ix_n {K i : Nat} (hK : K ≤ 400) (hi : i < 40) : (40 * nI K + nI i).toInt = 40 * K + i := ix_k (k := nI K) (i := nI i) (j := K) (by rw [nI_toInt (by omega)]) hK (by rw [nI_toInt (by omega)]; omega) (by rw [nI_toInt (by omega)]; omega) |>.trans (by rw [nI_toInt (by omega)])
set_option maxHeartbeats 4000000 in
set_option maxRecDepth 100000 in
theorem c_X2_become (l : Launch) (D : va_G) (cI cZ cT : ClassId) (h a1 a2 a3 : Nat) (md sz fl : Nat → Int32) (O : Ob) (hrm : rm O md sz fl) (mt wh : Int32) (H0 : Heap) (a b : Int32) : Met l yX2_become wsX2_become ({ frames := 1, cells := 0, slots := 0, locals := 21 }) (pK D cI cZ cT [.ref h, .int a, .int b] (fun H => H = H0 ∧ my D cI cZ h a1 a2 a3 md sz fl mt wh H0)) (pm_Qi (fun r H1 => r = (bec O a b).1 ∧ ∃ fl' : Nat → Int32, rm (bec O a b).2 md sz fl' ∧ my D cI cZ h a1 a2 a3 md sz fl' mt wh H1) (fun q : Nat => q = a3)) 0 0 (fun q : Nat => q = a3) := by
  refine Met.ofW (cc := cX2_become) (maxL := 7) (ret := (some .int)) (by decide) rfl ?_
  intro p e s m args below meth c s₁ B hml hv
  obtain ⟨rfl, hpic, hKN⟩ := hv
  have hK := hKN.1
  have hx := B.exec
  have hb := B.bytes
  have hr := B.returns
  have hts := atoms_spec (ws := wsX2_become) B.pre
  have hown : s.vm.findClass RX2 = some m.cls := findClass_of_methodNamed B.named
  have hlocks := B.notSynchronized
  obtain ⟨hH, hp⟩ := hpic
  subst hH
  have hS : va_S (fun q : Nat => q = a3) s.heap s.heap [] := va_S.rf
  have hl := lv_entry ([.ref h, .int a, .int b]) (n := 7) (Nat.le_of_ble_eq_true rfl)
  rw [lg_entry_eq]
  generalize (lg_sl ([.ref h, .int a, .int b]) ++ List.replicate (7 - (lg_sl ([.ref h, .int a, .int b])).length) Slot.unset).toArray = ls at hl ⊢
  have hl : lv_has ls 7 [(0, .ref h), (1, .int a), (2, .int b)] := hl
  refine lv_aload_n hx hb dX2_become_0 rfl (lv_at hl 0 rfl) ?_
  refine lv_iload_n hx hb dX2_become_1 rfl (lv_at hl 1 rfl) ?_
  refine pq_b (va_runV (As := [.int a]) (rest := []) ⟨hx, hb, hml, hown, hts⟩ (c_X2_isMade l D cI cZ cT h a1 a2 a3 md sz fl O hrm mt wh _ a) (cwV 1 hts gX2_become_X2_isMade rfl rfl rfl (by decide +kernel) ⟨Nat.le_of_ble_eq_true rfl, Nat.le_of_ble_eq_true rfl⟩) (pre_v ⟨rfl, hp⟩ hKN (recv hKN hp.1 rfl)) rfl rfl hl.1 rfl (lv_room (Nat.le_of_ble_eq_true rfl)) dX2_become_2 ⟨Nat.zero_le _, Nat.zero_le _⟩) (fun b2 => ?_) (fun b2 => ?_)
  · have e2 := os_f b2
    refine lv_if_eq (tgt := 16) hx hb dX2_become_5 (by decide) (fun _ => ?_) (fun c9 => absurd (by decide) c9)
    refine lv_iconst (v := (-1)) hx hb dX2_become_16 (by decide) ?_
    refine W.iret (v := (-1)) hx hb hr (fun t ht hW => ⟨⟨_, rfl, ?_⟩, hS.F ht⟩) hS.2.2 dX2_become_17
    rw [ht]
    rw [bec_a e2]
    exact ⟨rfl, fl, hrm, hp⟩
  · obtain ⟨j2, e2⟩ := os_t b2
    refine lv_if_eq (tgt := 16) hx hb dX2_become_5 (by decide) (fun c9 => absurd c9 (by decide)) (fun _ => ?_)
    refine lv_aload_n hx hb dX2_become_8 rfl (lv_at hl 0 rfl) ?_
    refine lv_iload_n hx hb dX2_become_9 rfl (lv_at hl 2 rfl) ?_
    refine pq_b (va_runV (As := [.int b]) (rest := []) ⟨hx, hb, hml, hown, hts⟩ (c_X2_isMade l D cI cZ cT h a1 a2 a3 md sz fl O hrm mt wh _ b) (cwV 1 hts gX2_become_X2_isMade rfl rfl rfl (by decide +kernel) ⟨Nat.le_of_ble_eq_true rfl, Nat.le_of_ble_eq_true rfl⟩) (pre_v ⟨rfl, hp⟩ hKN (recv hKN hp.1 rfl)) rfl rfl hl.1 rfl (lv_room (Nat.le_of_ble_eq_true rfl)) dX2_become_10 ⟨Nat.zero_le _, Nat.zero_le _⟩) (fun b10 => ?_) (fun b10 => ?_)
    · have e10 := os_f b10
      refine lv_if_ne (tgt := 18) hx hb dX2_become_13 (by decide) (fun c9 => absurd rfl c9) (fun _ => ?_)
      refine lv_iconst (v := (-1)) hx hb dX2_become_16 (by decide) ?_
      refine W.iret (v := (-1)) hx hb hr (fun t ht hW => ⟨⟨_, rfl, ?_⟩, hS.F ht⟩) hS.2.2 dX2_become_17
      rw [ht]
      rw [bec_b e2 e10]
      exact ⟨rfl, fl, hrm, hp⟩
    · obtain ⟨j10, e10⟩ := os_t b10
      refine lv_if_ne (tgt := 18) hx hb dX2_become_13 (by decide) (fun _ => ?_) (fun c9 => absurd c9 (by decide))
      refine lv_iconst (v := 0) hx hb dX2_become_18 (by decide) ?_
      refine lv_istore_n (lv' := [(3, .int 0), (0, .ref h), (1, .int a), (2, .int b)]) hx hb dX2_become_19 rfl hl (by decide) rfl (fun ls hl => ?_)
      refine lv_iconst (v := 1) hx hb dX2_become_20 (by decide) ?_
      refine lv_istore (lv' := [(4, .int 1), (3, .int 0), (0, .ref h), (1, .int a), (2, .int b)]) hx hb dX2_become_21 hl (by decide) rfl (fun ls hl => ?_)
      by_cases hab : a = b
      · refine lv_iload hx hb dX2_become_23 (lv_at hl 0 rfl) ?_
        refine lv_sipush (v := 401) hx hb dX2_become_25 (by decide) ?_
        refine lv_icmp_ge (tgt := 130) hx hb dX2_become_28 (by decide) (fun c9 => absurd c9 (by decide)) (fun _ => ?_)
        refine lv_iload_n hx hb dX2_become_31 rfl (lv_at hl 3 rfl) ?_
        refine lv_iload_n hx hb dX2_become_32 rfl (lv_at hl 4 rfl) ?_
        refine lv_icmp_eq (tgt := 130) hx hb dX2_become_33 (by decide) (fun _ => ?_) (fun c9 => absurd hab c9)
        refine lv_iload_n hx hb dX2_become_130 rfl (lv_at hl 1 rfl) ?_
        refine W.iret (v := 0) hx hb hr (fun t ht hW => ⟨⟨_, rfl, ?_⟩, hS.F ht⟩) hS.2.2 dX2_become_131
        rw [ht]
        rw [bec_eq e2 e10 hab]
        exact ⟨rfl, fl, hrm, hp⟩
      · have loop : ∀ (q k : Nat), k + q = 400 → ∀ (H : Heap) (locs : List Loc) (fl1 : Nat → Int32), rm (xo O (2 * a) (2 * b) k) md sz fl1 → my D cI cZ h a1 a2 a3 md sz fl1 mt wh H → va_S (fun q : Nat => q = a3) s.heap H locs → ∀ ls : Array Slot, lv_has ls 7 [(0, .ref h), (1, .int a), (2, .int b), (3, .int (xt O (2 * a) (2 * b) k)), (4, .int (nI (k + 1)))] → W p l e (headSpec wsX2_become ({ frames := 1, cells := 0, slots := 0, locals := 21 })).room s m ([.ref h, .int a, .int b] : List Value).toArray below meth c H locs 0 0 (MQ below (pm_Qi (fun r H1 => r = (bec O a b).1 ∧ ∃ fl' : Nat → Int32, rm (bec O a b).2 md sz fl' ∧ my D cI cZ h a1 a2 a3 md sz fl' mt wh H1) (fun q : Nat => q = a3)) ([.ref h, .int a, .int b] : List Value).toArray s 0 0 (fun q : Nat => q = a3)) (F0 m 23 ls []) := by
          intro q
          induction q with
          | zero =>
            intro k h1 H locs fl1 hrm hp hS ls hl
            refine lv_iload hx hb dX2_become_23 (lv_at hl 4 rfl) ?_
            refine lv_sipush (v := 401) hx hb dX2_become_25 (by decide) ?_
            refine lv_icmp_ge (tgt := 130) hx hb dX2_become_28 (by decide) (fun _ => ?_) (fun c9 => absurd (by rw [i_le, i_401, nI_toInt (by omega)]; omega) c9)
            refine lv_iload_n hx hb dX2_become_130 rfl (lv_at hl 3 rfl) ?_
            refine W.iret (v := (xt O (2 * a) (2 * b) k)) hx hb hr (fun t ht hW => ⟨⟨_, rfl, ?_⟩, hS.F ht⟩) hS.2.2 dX2_become_131
            rw [ht]
            have e9 : k = 400 := by omega
            subst e9
            rw [bec_go e2 e10 hab]
            exact ⟨rfl, fl1, hrm, hp⟩
          | succ q ih =>
            intro k h1 H locs fl1 hrm hp hS ls hl
            refine lv_iload hx hb dX2_become_23 (lv_at hl 4 rfl) ?_
            refine lv_sipush (v := 401) hx hb dX2_become_25 (by decide) ?_
            refine lv_icmp_ge (tgt := 130) hx hb dX2_become_28 (by decide) (fun c9 => absurd c9 (by rw [i_le, i_401, nI_toInt (by omega)]; omega)) (fun _ => ?_)
            refine lv_iload_n hx hb dX2_become_31 rfl (lv_at hl 1 rfl) ?_
            refine lv_iload_n hx hb dX2_become_32 rfl (lv_at hl 2 rfl) ?_
            refine lv_icmp_eq (tgt := 130) hx hb dX2_become_33 (by decide) (fun c9 => absurd c9 hab) (fun _ => ?_)
            refine lv_iconst (v := 0) hx hb dX2_become_36 (by decide) ?_
            refine lv_istore (lv' := [(5, .int 0), (0, .ref h), (1, .int a), (2, .int b), (3, .int (xt O (2 * a) (2 * b) k)), (4, .int (nI (k + 1)))]) hx hb dX2_become_37 hl (by decide) rfl (fun ls hl => ?_)
            rcases hrm (k + 1) (by omega) (by omega) with ⟨m39, e39⟩ | ⟨m39, e39, s39, t39, w39, x39⟩
            · have m39 : O.1 (k + 1) = false := m39
              refine lv_iload hx hb dX2_become_39 (lv_at hl 0 rfl) ?_
              refine lv_aload_n hx hb dX2_become_41 rfl (lv_at hl 1 rfl) ?_
              refine va_get (D := D) (ci := 2) (v := .ref a2) (C := RX2) (T := TX2) (N := 5) hx hb hts (iw_X2_become_X2) hown hK (one hp.1) 0 rfl rfl 1 (by decide) (hts (.fieldLink RX2 13 "MethodBookModel" "sizes" "[I") (by decide +kernel)) (fun _ h9 => h9) rfl dX2_become_42 ?_
              refine lv_iload hx hb dX2_become_45 (lv_at hl 5 rfl) ?_
              refine va_iald hx hb hK (one hp.2.2.1) 0 0 rfl rfl (vp_in_nI (by omega) (by omega)) dX2_become_47 ?_
              refine lv_icmp_ge (tgt := 124) hx hb dX2_become_48 (by decide) (fun c48 => ?_) (fun c48 => ?_)
              · simp only [i_lt, i_le, i_0, i_1, i_2, i_4, i_40, i_100, i_400, i_401] at c48
                rw [xo_same m39] at hrm
                have ec : xt O (2 * a) (2 * b) k = xt O (2 * a) (2 * b) (k + 1) := xt_f m39
                rw [ec] at hl
                refine lv_iinc (v := ((nI (k + 1)) + 1)) (lv' := [(4, .int ((nI (k + 1)) + 1)), (5, .int 0), (0, .ref h), (1, .int a), (2, .int b), (3, .int (xt O (2 * a) (2 * b) (k + 1)))]) hx hb dX2_become_124 hl (k := 5) rfl rfl (by decide) rfl (fun ls hl => ?_)
                refine lv_goto (tgt := 23) hx hb dX2_become_127 (by decide) ?_
                rw [← nI_succ] at hl
                exact ih (k + 1) (by omega) _ _ _ hrm hp hS _ (lv_sub hl [2, 3, 4, 5, 0] rfl)
              · simp only [i_lt, i_le, i_0, i_1, i_2, i_4, i_40, i_100, i_400, i_401] at c48
                refine lv_aload_n hx hb dX2_become_51 rfl (lv_at hl 1 rfl) ?_
                refine va_get (D := D) (ci := 2) (v := .ref a1) (C := RX2) (T := TX2) (N := 5) hx hb hts (iw_X2_become_X2) hown hK (one hp.1) 0 rfl rfl 0 (by decide) (hts (.fieldLink RX2 7 "MethodBookModel" "made" "[Z") (by decide +kernel)) (fun _ h9 => h9) rfl dX2_become_52 ?_
                refine lv_iload hx hb dX2_become_55 (lv_at hl 5 rfl) ?_
                refine va_zald hx hb hK (one hp.2.1) 0 1 rfl rfl (vp_in_nI (by omega) (by omega)) dX2_become_57 ?_
                rw [show md (nI (k + 1)).toNatClampNeg = 0 from by rw [nI_clamp (by omega)]; exact e39]
                refine lv_if_eq (tgt := 124) hx hb dX2_become_58 (by decide) (fun _ => ?_) (fun c9 => absurd (by decide) c9)
                rw [xo_same m39] at hrm
                have ec : xt O (2 * a) (2 * b) k = xt O (2 * a) (2 * b) (k + 1) := xt_f m39
                rw [ec] at hl
                refine lv_iinc (v := ((nI (k + 1)) + 1)) (lv' := [(4, .int ((nI (k + 1)) + 1)), (5, .int 0), (0, .ref h), (1, .int a), (2, .int b), (3, .int (xt O (2 * a) (2 * b) (k + 1)))]) hx hb dX2_become_124 hl (k := 5) rfl rfl (by decide) rfl (fun ls hl => ?_)
                refine lv_goto (tgt := 23) hx hb dX2_become_127 (by decide) ?_
                rw [← nI_succ] at hl
                exact ih (k + 1) (by omega) _ _ _ hrm hp hS _ (lv_sub hl [2, 3, 4, 5, 0] rfl)
            · have m39 : O.1 (k + 1) = true := m39
              have s39 : sz (k + 1) = szv O (k + 1) := s39
              have t39 : O.2.2.1 (k + 1) ≤ 40 := t39
              have w39 : O.2.1 (k + 1) = false → O.2.2.1 (k + 1) = 0 := w39
              have loop2 : ∀ (q2 i : Nat), i + q2 = O.2.2.1 (k + 1) → ∀ (H : Heap) (locs : List Loc) (fl2 : Nat → Int32), rm (obf (xo O (2 * a) (2 * b) k) (k + 1) (swf (O.2.2.2 (k + 1)) (2 * a) (2 * b) i)) md sz fl2 → my D cI cZ h a1 a2 a3 md sz fl2 mt wh H → va_S (fun q : Nat => q = a3) s.heap H locs → ∀ ls : Array Slot, lv_has ls 7 [(0, .ref h), (1, .int a), (2, .int b), (3, .int (xt O (2 * a) (2 * b) k + xcn (O.2.2.2 (k + 1)) (2 * a) (2 * b) i)), (4, .int (nI (k + 1))), (5, .int (nI i))] → W p l e (headSpec wsX2_become ({ frames := 1, cells := 0, slots := 0, locals := 21 })).room s m ([.ref h, .int a, .int b] : List Value).toArray below meth c H locs 0 0 (MQ below (pm_Qi (fun r H1 => r = (bec O a b).1 ∧ ∃ fl' : Nat → Int32, rm (bec O a b).2 md sz fl' ∧ my D cI cZ h a1 a2 a3 md sz fl' mt wh H1) (fun q : Nat => q = a3)) ([.ref h, .int a, .int b] : List Value).toArray s 0 0 (fun q : Nat => q = a3)) (F0 m 39 ls []) := by
                intro q2
                induction q2 with
                | zero =>
                  intro i h2 H locs fl2 hrm hp hS ls hl
                  refine lv_iload hx hb dX2_become_39 (lv_at hl 5 rfl) ?_
                  refine lv_aload_n hx hb dX2_become_41 rfl (lv_at hl 0 rfl) ?_
                  refine va_get (D := D) (ci := 2) (v := .ref a2) (C := RX2) (T := TX2) (N := 5) hx hb hts (iw_X2_become_X2) hown hK (one hp.1) 0 rfl rfl 1 (by decide) (hts (.fieldLink RX2 13 "MethodBookModel" "sizes" "[I") (by decide +kernel)) (fun _ h9 => h9) rfl dX2_become_42 ?_
                  refine lv_iload hx hb dX2_become_45 (lv_at hl 4 rfl) ?_
                  refine va_iald hx hb hK (one hp.2.2.1) 0 0 rfl rfl (vp_in_nI (by omega) (by omega)) dX2_become_47 ?_
                  rw [show sz (nI (k + 1)).toNatClampNeg = szv O (k + 1) from by rw [nI_clamp (by omega)]; exact s39]
                  refine lv_icmp_ge (tgt := 124) hx hb dX2_become_48 (by decide) (fun _ => ?_) (fun c9 => absurd (by rw [show i = O.2.2.1 (k + 1) by omega]; exact szv_exit w39 t39) c9)
                  have ei : i = O.2.2.1 (k + 1) := by omega
                  rw [ei] at hrm hl
                  have e0 : (xo O (2 * a) (2 * b) k).2.2.2 (k + 1) = O.2.2.2 (k + 1) := by
                    show (if _ then _ else _) = _
                    rw [if_neg (by omega)]
                  have hrm : rm (xo O (2 * a) (2 * b) (k + 1)) md sz fl2 := by
                    have h9 := xo_step (O := O) (x := 2 * a) (y := 2 * b) m39
                    rw [e0] at h9
                    rw [← h9]
                    exact hrm
                  have ec : xt O (2 * a) (2 * b) k + xcn (O.2.2.2 (k + 1)) (2 * a) (2 * b) (O.2.2.1 (k + 1)) = xt O (2 * a) (2 * b) (k + 1) := by
                    have h9 := xt_t (O := O) (x := 2 * a) (y := 2 * b) m39
                    rw [e0] at h9
                    exact h9
                  rw [ec] at hl
                  refine lv_iinc (v := ((nI (k + 1)) + 1)) (lv' := [(4, .int ((nI (k + 1)) + 1)), (0, .ref h), (1, .int a), (2, .int b), (3, .int (xt O (2 * a) (2 * b) (k + 1))), (5, .int (nI (O.2.2.1 (k + 1))))]) hx hb dX2_become_124 hl (k := 4) rfl rfl (by decide) rfl (fun ls hl => ?_)
                  refine lv_goto (tgt := 23) hx hb dX2_become_127 (by decide) ?_
                  rw [← nI_succ] at hl
                  exact ih (k + 1) (by omega) _ _ _ hrm hp hS _ (lv_sub hl [1, 2, 3, 4, 0] rfl)
                | succ q2 ih2 =>
                  intro i h2 H locs fl2 hrm hp hS ls hl
                  have hix := ix_n (K := k + 1) (i := i) (by omega) (by omega)
                  refine lv_iload hx hb dX2_become_39 (lv_at hl 5 rfl) ?_
                  refine lv_aload_n hx hb dX2_become_41 rfl (lv_at hl 0 rfl) ?_
                  refine va_get (D := D) (ci := 2) (v := .ref a2) (C := RX2) (T := TX2) (N := 5) hx hb hts (iw_X2_become_X2) hown hK (one hp.1) 0 rfl rfl 1 (by decide) (hts (.fieldLink RX2 13 "MethodBookModel" "sizes" "[I") (by decide +kernel)) (fun _ h9 => h9) rfl dX2_become_42 ?_
                  refine lv_iload hx hb dX2_become_45 (lv_at hl 4 rfl) ?_
                  refine va_iald hx hb hK (one hp.2.2.1) 0 0 rfl rfl (vp_in_nI (by omega) (by omega)) dX2_become_47 ?_
                  rw [show sz (nI (k + 1)).toNatClampNeg = szv O (k + 1) from by rw [nI_clamp (by omega)]; exact s39]
                  refine lv_icmp_ge (tgt := 124) hx hb dX2_become_48 (by decide) (fun c9 => absurd c9 (szv_stay w39 t39 (by omega))) (fun _ => ?_)
                  refine lv_aload_n hx hb dX2_become_51 rfl (lv_at hl 0 rfl) ?_
                  refine va_get (D := D) (ci := 2) (v := .ref a1) (C := RX2) (T := TX2) (N := 5) hx hb hts (iw_X2_become_X2) hown hK (one hp.1) 0 rfl rfl 0 (by decide) (hts (.fieldLink RX2 7 "MethodBookModel" "made" "[Z") (by decide +kernel)) (fun _ h9 => h9) rfl dX2_become_52 ?_
                  refine lv_iload hx hb dX2_become_55 (lv_at hl 4 rfl) ?_
                  refine va_zald hx hb hK (one hp.2.1) 0 1 rfl rfl (vp_in_nI (by omega) (by omega)) dX2_become_57 ?_
                  rw [show md (nI (k + 1)).toNatClampNeg = 1 from by rw [nI_clamp (by omega)]; exact e39]
                  refine lv_if_eq (tgt := 124) hx hb dX2_become_58 (by decide) (fun c9 => absurd c9 (by decide)) (fun _ => ?_)
                  refine lv_aload_n hx hb dX2_become_61 rfl (lv_at hl 0 rfl) ?_
                  refine va_get (D := D) (ci := 2) (v := .ref a3) (C := RX2) (T := TX2) (N := 5) hx hb hts (iw_X2_become_X2) hown hK (one hp.1) 0 rfl rfl 2 (by decide) (hts (.fieldLink RX2 17 "MethodBookModel" "fields" "[I") (by decide +kernel)) (fun _ h9 => h9) rfl dX2_become_62 ?_
                  refine lv_bipush (v := 40) hx hb dX2_become_65 (by decide) ?_
                  refine lv_iload hx hb dX2_become_67 (lv_at hl 4 rfl) ?_
                  refine lv_imul hx hb dX2_become_69 ?_
                  refine lv_iload hx hb dX2_become_70 (lv_at hl 5 rfl) ?_
                  refine lv_iadd hx hb dX2_become_72 ?_
                  refine va_iald hx hb hK (one hp.2.2.2.1) 0 0 rfl rfl (vp_in_iff.mpr ⟨by rw [hix]; omega, by rw [hix]; omega⟩) dX2_become_73 ?_
                  rw [show fl2 (40 * nI (k + 1) + nI i).toNatClampNeg = O.2.2.2 (k + 1) i from by
                      rw [i_cl, hix, show (40 * ((k + 1 : Nat) : Int) + (i : Int)).toNat = 40 * (k + 1) + i by omega]
                      have h9 := (rm_of hrm (k := k + 1) (by omega) (by omega) m39).2.2.2 i (show i < O.2.2.1 (k + 1) by omega)
                      have h8 : (obf (xo O (2 * a) (2 * b) k) (k + 1) (swf (O.2.2.2 (k + 1)) (2 * a) (2 * b) i)).2.2.2 (k + 1) = swf (O.2.2.2 (k + 1)) (2 * a) (2 * b) i := va_up_self _ _ _
                      rw [h8, swf_at] at h9
                      exact h9]
                  refine lv_istore (lv' := [(6, .int (O.2.2.2 (k + 1) i)), (0, .ref h), (1, .int a), (2, .int b), (3, .int (xt O (2 * a) (2 * b) k + xcn (O.2.2.2 (k + 1)) (2 * a) (2 * b) i)), (4, .int (nI (k + 1))), (5, .int (nI i))]) hx hb dX2_become_74 hl (by decide) rfl (fun ls hl => ?_)
                  refine lv_iload hx hb dX2_become_76 (lv_at hl 0 rfl) ?_
                  refine lv_iconst (v := 2) hx hb dX2_become_78 (by decide) ?_
                  refine lv_iload_n hx hb dX2_become_79 rfl (lv_at hl 2 rfl) ?_
                  refine lv_imul hx hb dX2_become_80 ?_
                  refine lv_icmp_eq (tgt := 92) hx hb dX2_become_81 (by decide) (fun c81 => ?_) (fun c81 => ?_)
                  · refine lv_aload_n hx hb dX2_become_92 rfl (lv_at hl 1 rfl) ?_
                    refine va_get (D := D) (ci := 2) (v := .ref a3) (C := RX2) (T := TX2) (N := 5) hx hb hts (iw_X2_become_X2) hown hK (one hp.1) 0 rfl rfl 2 (by decide) (hts (.fieldLink RX2 17 "MethodBookModel" "fields" "[I") (by decide +kernel)) (fun _ h9 => h9) rfl dX2_become_93 ?_
                    refine lv_bipush (v := 40) hx hb dX2_become_96 (by decide) ?_
                    refine lv_iload hx hb dX2_become_98 (lv_at hl 5 rfl) ?_
                    refine lv_imul hx hb dX2_become_100 ?_
                    refine lv_iload hx hb dX2_become_101 (lv_at hl 6 rfl) ?_
                    refine lv_iadd hx hb dX2_become_103 ?_
                    refine lv_iconst (v := 2) hx hb dX2_become_104 (by decide) ?_
                    refine lv_iload_n hx hb dX2_become_105 rfl (lv_at hl 2 rfl) ?_
                    refine lv_imul hx hb dX2_become_106 ?_
                    refine lv_iconst (v := 2) hx hb dX2_become_107 (by decide) ?_
                    refine lv_iload_n hx hb dX2_become_108 rfl (lv_at hl 3 rfl) ?_
                    refine lv_imul hx hb dX2_become_109 ?_
                    refine lv_iadd hx hb dX2_become_110 ?_
                    refine lv_iload hx hb dX2_become_111 (lv_at hl 0 rfl) ?_
                    refine lv_isub hx hb dX2_become_113 ?_
                    refine pw_iast hx hb hK hS rfl 0 hp.2.2.2.1 rfl (vp_in_iff.mpr ⟨by rw [hix]; omega, by rw [hix]; omega⟩) dX2_become_114 (fun H locs hf hz ho hS => ?_)
                    replace hp := my_3 hp hf ho
                    have ev : 2 * a + 2 * b - O.2.2.2 (k + 1) i = swv (2 * a) (2 * b) (O.2.2.2 (k + 1) i) := by
                      rw [c81, sw_1]; unfold swv; rw [if_pos rfl]
                    rw [i_cl (40 * nI (k + 1) + nI i), hix, show (40 * ((k + 1 : Nat) : Int) + (i : Int)).toNat = 40 * (k + 1) + i by omega] at hp
                    replace hrm := rm_sw (v := 2 * a + 2 * b - O.2.2.2 (k + 1) i) hrm (show O.2.2.1 (k + 1) ≤ 40 from t39) (show i < O.2.2.1 (k + 1) by omega)
                    rw [swf_put _ _ _ _ _ ev] at hrm
                    refine lv_iinc (v := ((xt O (2 * a) (2 * b) k + xcn (O.2.2.2 (k + 1)) (2 * a) (2 * b) i) + 1)) (lv' := [(3, .int ((xt O (2 * a) (2 * b) k + xcn (O.2.2.2 (k + 1)) (2 * a) (2 * b) i) + 1)), (6, .int (O.2.2.2 (k + 1) i)), (0, .ref h), (1, .int a), (2, .int b), (4, .int (nI (k + 1))), (5, .int (nI i))]) hx hb dX2_become_115 hl (k := 4) rfl rfl (by decide) rfl (fun ls hl => ?_)
                    have ec : xt O (2 * a) (2 * b) k + xcn (O.2.2.2 (k + 1)) (2 * a) (2 * b) i + 1 = xt O (2 * a) (2 * b) k + xcn (O.2.2.2 (k + 1)) (2 * a) (2 * b) (i + 1) := by
                      rw [Int32.add_assoc]
                      congr 1
                      show _ = xcn (O.2.2.2 (k + 1)) (2 * a) (2 * b) i + b2i (hit (2 * a) (2 * b) (O.2.2.2 (k + 1) i))
                      rw [show hit (2 * a) (2 * b) (O.2.2.2 (k + 1) i) = true from by unfold hit; rw [decide_eq_true c81]; rfl]
                      rfl
                    rw [ec] at hl
                    refine lv_iinc (v := ((nI i) + 1)) (lv' := [(5, .int ((nI i) + 1)), (3, .int (xt O (2 * a) (2 * b) k + xcn (O.2.2.2 (k + 1)) (2 * a) (2 * b) (i + 1))), (6, .int (O.2.2.2 (k + 1) i)), (0, .ref h), (1, .int a), (2, .int b), (4, .int (nI (k + 1)))]) hx hb dX2_become_118 hl (k := 6) rfl rfl (by decide) rfl (fun ls hl => ?_)
                    refine lv_goto (tgt := 39) hx hb dX2_become_121 (by decide) ?_
                    rw [← nI_succ] at hl
                    exact ih2 (i + 1) (by omega) _ _ _ hrm hp hS _ (lv_sub hl [3, 4, 5, 1, 6, 0] rfl)
                  · refine lv_iload hx hb dX2_become_84 (lv_at hl 0 rfl) ?_
                    refine lv_iconst (v := 2) hx hb dX2_become_86 (by decide) ?_
                    refine lv_iload_n hx hb dX2_become_87 rfl (lv_at hl 3 rfl) ?_
                    refine lv_imul hx hb dX2_become_88 ?_
                    refine lv_icmp_ne (tgt := 118) hx hb dX2_become_89 (by decide) (fun c89 => ?_) (fun c89 => ?_)
                    · have ec : xt O (2 * a) (2 * b) k + xcn (O.2.2.2 (k + 1)) (2 * a) (2 * b) i = xt O (2 * a) (2 * b) k + xcn (O.2.2.2 (k + 1)) (2 * a) (2 * b) (i + 1) := by
                        congr 1
                        show _ = xcn (O.2.2.2 (k + 1)) (2 * a) (2 * b) i + b2i (hit (2 * a) (2 * b) (O.2.2.2 (k + 1) i))
                        rw [show hit (2 * a) (2 * b) (O.2.2.2 (k + 1) i) = false from by unfold hit; rw [decide_eq_false c81, decide_eq_false c89]; rfl]
                        exact (Int32.add_zero _).symm
                      rw [ec] at hl
                      rw [swf_same _ _ _ i (by unfold swv; rw [if_neg c81, if_neg c89])] at hrm
                      refine lv_iinc (v := ((nI i) + 1)) (lv' := [(5, .int ((nI i) + 1)), (6, .int (O.2.2.2 (k + 1) i)), (0, .ref h), (1, .int a), (2, .int b), (3, .int (xt O (2 * a) (2 * b) k + xcn (O.2.2.2 (k + 1)) (2 * a) (2 * b) (i + 1))), (4, .int (nI (k + 1)))]) hx hb dX2_become_118 hl (k := 6) rfl rfl (by decide) rfl (fun ls hl => ?_)
                      refine lv_goto (tgt := 39) hx hb dX2_become_121 (by decide) ?_
                      rw [← nI_succ] at hl
                      exact ih2 (i + 1) (by omega) _ _ _ hrm hp hS _ (lv_sub hl [2, 3, 4, 5, 6, 0] rfl)
                    · refine lv_aload_n hx hb dX2_become_92 rfl (lv_at hl 1 rfl) ?_
                      refine va_get (D := D) (ci := 2) (v := .ref a3) (C := RX2) (T := TX2) (N := 5) hx hb hts (iw_X2_become_X2) hown hK (one hp.1) 0 rfl rfl 2 (by decide) (hts (.fieldLink RX2 17 "MethodBookModel" "fields" "[I") (by decide +kernel)) (fun _ h9 => h9) rfl dX2_become_93 ?_
                      refine lv_bipush (v := 40) hx hb dX2_become_96 (by decide) ?_
                      refine lv_iload hx hb dX2_become_98 (lv_at hl 5 rfl) ?_
                      refine lv_imul hx hb dX2_become_100 ?_
                      refine lv_iload hx hb dX2_become_101 (lv_at hl 6 rfl) ?_
                      refine lv_iadd hx hb dX2_become_103 ?_
                      refine lv_iconst (v := 2) hx hb dX2_become_104 (by decide) ?_
                      refine lv_iload_n hx hb dX2_become_105 rfl (lv_at hl 2 rfl) ?_
                      refine lv_imul hx hb dX2_become_106 ?_
                      refine lv_iconst (v := 2) hx hb dX2_become_107 (by decide) ?_
                      refine lv_iload_n hx hb dX2_become_108 rfl (lv_at hl 3 rfl) ?_
                      refine lv_imul hx hb dX2_become_109 ?_
                      refine lv_iadd hx hb dX2_become_110 ?_
                      refine lv_iload hx hb dX2_become_111 (lv_at hl 0 rfl) ?_
                      refine lv_isub hx hb dX2_become_113 ?_
                      refine pw_iast hx hb hK hS rfl 0 hp.2.2.2.1 rfl (vp_in_iff.mpr ⟨by rw [hix]; omega, by rw [hix]; omega⟩) dX2_become_114 (fun H locs hf hz ho hS => ?_)
                      replace hp := my_3 hp hf ho
                      have ev : 2 * a + 2 * b - O.2.2.2 (k + 1) i = swv (2 * a) (2 * b) (O.2.2.2 (k + 1) i) := by
                        rw [c89, sw_2]; unfold swv; rw [if_neg (fun h9 => c81 (by rw [c89]; exact h9)), if_pos rfl]
                      rw [i_cl (40 * nI (k + 1) + nI i), hix, show (40 * ((k + 1 : Nat) : Int) + (i : Int)).toNat = 40 * (k + 1) + i by omega] at hp
                      replace hrm := rm_sw (v := 2 * a + 2 * b - O.2.2.2 (k + 1) i) hrm (show O.2.2.1 (k + 1) ≤ 40 from t39) (show i < O.2.2.1 (k + 1) by omega)
                      rw [swf_put _ _ _ _ _ ev] at hrm
                      refine lv_iinc (v := ((xt O (2 * a) (2 * b) k + xcn (O.2.2.2 (k + 1)) (2 * a) (2 * b) i) + 1)) (lv' := [(3, .int ((xt O (2 * a) (2 * b) k + xcn (O.2.2.2 (k + 1)) (2 * a) (2 * b) i) + 1)), (6, .int (O.2.2.2 (k + 1) i)), (0, .ref h), (1, .int a), (2, .int b), (4, .int (nI (k + 1))), (5, .int (nI i))]) hx hb dX2_become_115 hl (k := 4) rfl rfl (by decide) rfl (fun ls hl => ?_)
                      have ec : xt O (2 * a) (2 * b) k + xcn (O.2.2.2 (k + 1)) (2 * a) (2 * b) i + 1 = xt O (2 * a) (2 * b) k + xcn (O.2.2.2 (k + 1)) (2 * a) (2 * b) (i + 1) := by
                        rw [Int32.add_assoc]
                        congr 1
                        show _ = xcn (O.2.2.2 (k + 1)) (2 * a) (2 * b) i + b2i (hit (2 * a) (2 * b) (O.2.2.2 (k + 1) i))
                        rw [show hit (2 * a) (2 * b) (O.2.2.2 (k + 1) i) = true from by unfold hit; rw [decide_eq_true c89, Bool.or_true]]
                        rfl
                      rw [ec] at hl
                      refine lv_iinc (v := ((nI i) + 1)) (lv' := [(5, .int ((nI i) + 1)), (3, .int (xt O (2 * a) (2 * b) k + xcn (O.2.2.2 (k + 1)) (2 * a) (2 * b) (i + 1))), (6, .int (O.2.2.2 (k + 1) i)), (0, .ref h), (1, .int a), (2, .int b), (4, .int (nI (k + 1)))]) hx hb dX2_become_118 hl (k := 6) rfl rfl (by decide) rfl (fun ls hl => ?_)
                      refine lv_goto (tgt := 39) hx hb dX2_become_121 (by decide) ?_
                      rw [← nI_succ] at hl
                      exact ih2 (i + 1) (by omega) _ _ _ hrm hp hS _ (lv_sub hl [3, 4, 5, 1, 6, 0] rfl)
              have hl : lv_has ls 7 [(0, .ref h), (1, .int a), (2, .int b), (3, .int (xt O (2 * a) (2 * b) k + xcn (O.2.2.2 (k + 1)) (2 * a) (2 * b) 0)), (4, .int (nI (k + 1))), (5, .int (nI 0))] := by
                have e9 : xt O (2 * a) (2 * b) k + xcn (O.2.2.2 (k + 1)) (2 * a) (2 * b) 0 = xt O (2 * a) (2 * b) k := Int32.add_zero _
                rw [e9]
                exact lv_sub hl [1, 2, 3, 4, 5, 0] rfl
              exact loop2 (O.2.2.1 (k + 1)) 0 (by omega) _ _ fl1 (by
                  have e0 : (xo O (2 * a) (2 * b) k).2.2.2 (k + 1) = O.2.2.2 (k + 1) := by
                    show (if _ then _ else _) = _
                    rw [if_neg (by omega)]
                  rw [swf_0, ← e0, obf_self]
                  exact hrm) hp hS _ hl
        exact loop 400 0 (by omega) _ _ fl (by rw [xo_0]; exact hrm) hp hS _ (lv_sub hl [2, 3, 4, 1, 0] rfl)
end
section
theorem rm_make {O : Ob} {md sz fl fl2 : Nat → Int32} (hrm : rm O md sz fl) {K nn : Nat} {b : Bool} {X : Int32} (h1 : 1 ≤ K) (h2 : K ≤ 400) (hn : nn ≤ 40) (hX : X = if b = true then nI nn else -1) (hz : ∀ j, j < 40 → fl2 (40 * K + j) = 0) (hs : ∀ q : Nat, (q < 40 * K ∨ 40 * K + 40 ≤ q) → fl2 q = fl q) : rm (va_up O.1 K true, va_up O.2.1 K b, va_up O.2.2.1 K (if b = true then nn else 0), va_up O.2.2.2 K (fun _ => 0)) (upd md K 1) (upd sz K X) fl2 := by
  intro k hk1 hk2
  by_cases hk : k = K
  · subst hk
    refine Or.inr ⟨va_up_self _ _ _, pk_us, ?_, ?_, ?_, ?_⟩
    · rw [pk_us, hX]
      show _ = (if va_up O.2.1 k b k = true then nI (va_up O.2.2.1 k _ k) else -1)
      rw [va_up_self, va_up_self]
      cases b <;> rfl
    · show va_up O.2.2.1 k _ k ≤ 40
      rw [va_up_self]
      split <;> omega
    · show va_up O.2.1 k b k = false → va_up O.2.2.1 k _ k = 0
      rw [va_up_self, va_up_self]
      intro hb
      rw [hb]
      rfl
    · show ∀ i, i < va_up O.2.2.1 k _ k → fl2 (40 * k + i) = va_up O.2.2.2 k (fun _ => 0) k i
      rw [va_up_self, va_up_self]
      intro i hi
      exact hz i (by split at hi <;> omega)
  · have e : ∀ {α : Type} (f : Nat → α) (v : α), va_up f K v k = f k := fun f v => va_up_ne _ _ hk
    show (va_up O.1 K true k = false ∧ upd md K 1 k = 0) ∨ (va_up O.1 K true k = true ∧ upd md K 1 k = 1 ∧ upd sz K X k = (if va_up O.2.1 K b k = true then nI (va_up O.2.2.1 K _ k) else -1) ∧ va_up O.2.2.1 K _ k ≤ 40 ∧ (va_up O.2.1 K b k = false → va_up O.2.2.1 K _ k = 0) ∧ ∀ i, i < va_up O.2.2.1 K _ k → fl2 (40 * k + i) = va_up O.2.2.2 K (fun _ => 0) k i)
    rw [e, e, e, e, pk_un hk, pk_un hk]
    rcases hrm k hk1 hk2 with hm | ⟨m1, m2, m3, m4, m5, m6⟩
    · exact Or.inl hm
    · exact Or.inr ⟨m1, m2, m3, m4, m5, fun i hi => by rw [hs _ (by omega)]; exact m6 i hi⟩
set_option maxHeartbeats 4000000 in
set_option maxRecDepth 100000 in
theorem c_X2_make (l : Launch) (D : va_G) (cI cZ cT : ClassId) (h a1 a2 a3 : Nat) (md sz fl : Nat → Int32) (O : Ob) (hrm : rm O md sz fl) (mt wh : Int32) (H0 : Heap) (k n : Int32) (b : Bool) : Met l yX2_make wsX2_make ({ frames := 0, cells := 0, slots := 0, locals := 0 }) (pK D cI cZ cT [.ref h, .int k, .int n, .int (b2i b)] (fun H => H = H0 ∧ my D cI cZ h a1 a2 a3 md sz fl mt wh H0)) (pm_Qi (fun r H1 => (¬ mkok k n ∧ r = 0 ∧ my D cI cZ h a1 a2 a3 md sz fl mt wh H1) ∨ (mkok k n ∧ r = 1 ∧ ∃ (md' sz' fl' : Nat → Int32), rm (mko O k n b) md' sz' fl' ∧ my D cI cZ h a1 a2 a3 md' sz' fl' mt wh H1)) (fun q : Nat => q = a1 ∨ q = a2 ∨ q = a3)) 0 0 (fun q : Nat => q = a1 ∨ q = a2 ∨ q = a3) := by
  refine Met.ofW (cc := cX2_make) (maxL := 5) (ret := (some .boolean)) (by decide) rfl ?_
  intro p e s m args below meth c s₁ B hml hv
  obtain ⟨rfl, hpic, hKN⟩ := hv
  have hK := hKN.1
  have hx := B.exec
  have hb := B.bytes
  have hr := B.returns
  have hts := atoms_spec (ws := wsX2_make) B.pre
  have hown : s.vm.findClass RX2 = some m.cls := findClass_of_methodNamed B.named
  have hlocks := B.notSynchronized
  obtain ⟨hH, hp⟩ := hpic
  subst hH
  have hS : va_S (fun q : Nat => q = a1 ∨ q = a2 ∨ q = a3) s.heap s.heap [] := va_S.rf
  have hl := lv_entry ([.ref h, .int k, .int n, .int (b2i b)]) (n := 5) (Nat.le_of_ble_eq_true rfl)
  rw [lg_entry_eq]
  generalize (lg_sl ([.ref h, .int k, .int n, .int (b2i b)]) ++ List.replicate (5 - (lg_sl ([.ref h, .int k, .int n, .int (b2i b)])).length) Slot.unset).toArray = ls at hl ⊢
  have hl : lv_has ls 5 [(0, .ref h), (1, .int k), (2, .int n), (3, .int (b2i b))] := hl
  refine lv_iload_n hx hb dX2_make_0 rfl (lv_at hl 1 rfl) ?_
  refine lv_iconst (v := 1) hx hb dX2_make_1 (by decide) ?_
  refine lv_icmp_lt (tgt := 22) hx hb dX2_make_2 (by decide) (fun c2 => ?_) (fun c2 => ?_)
  · simp only [i_lt, i_le, i_0, i_1, i_2, i_4, i_40, i_100, i_400, i_401] at c2
    refine lv_iconst (v := 0) hx hb dX2_make_22 (by decide) ?_
    refine W.zret (v := 0) (ty := .boolean) hx hb hr rfl (fun t ht hW => ⟨⟨_, rfl, ?_⟩, hS.F ht⟩) hS.2.2 dX2_make_23
    rw [ht]
    exact Or.inl ⟨fun h9 => by obtain ⟨h5, h6, h7, h8⟩ := h9; omega, rfl, hp⟩
  · simp only [i_lt, i_le, i_0, i_1, i_2, i_4, i_40, i_100, i_400, i_401] at c2
    refine lv_iload_n hx hb dX2_make_5 rfl (lv_at hl 1 rfl) ?_
    refine lv_sipush (v := 401) hx hb dX2_make_6 (by decide) ?_
    refine lv_icmp_ge (tgt := 22) hx hb dX2_make_9 (by decide) (fun c9 => ?_) (fun c9 => ?_)
    · simp only [i_lt, i_le, i_0, i_1, i_2, i_4, i_40, i_100, i_400, i_401] at c9
      refine lv_iconst (v := 0) hx hb dX2_make_22 (by decide) ?_
      refine W.zret (v := 0) (ty := .boolean) hx hb hr rfl (fun t ht hW => ⟨⟨_, rfl, ?_⟩, hS.F ht⟩) hS.2.2 dX2_make_23
      rw [ht]
      exact Or.inl ⟨fun h9 => by obtain ⟨h5, h6, h7, h8⟩ := h9; omega, rfl, hp⟩
    · simp only [i_lt, i_le, i_0, i_1, i_2, i_4, i_40, i_100, i_400, i_401] at c9
      refine lv_iload_n hx hb dX2_make_12 rfl (lv_at hl 2 rfl) ?_
      refine lv_if_lt (tgt := 22) hx hb dX2_make_13 (by decide) (fun c13 => ?_) (fun c13 => ?_)
      · simp only [i_lt, i_le, i_0, i_1, i_2, i_4, i_40, i_100, i_400, i_401] at c13
        refine lv_iconst (v := 0) hx hb dX2_make_22 (by decide) ?_
        refine W.zret (v := 0) (ty := .boolean) hx hb hr rfl (fun t ht hW => ⟨⟨_, rfl, ?_⟩, hS.F ht⟩) hS.2.2 dX2_make_23
        rw [ht]
        exact Or.inl ⟨fun h9 => by obtain ⟨h5, h6, h7, h8⟩ := h9; omega, rfl, hp⟩
      · simp only [i_lt, i_le, i_0, i_1, i_2, i_4, i_40, i_100, i_400, i_401] at c13
        refine lv_iload_n hx hb dX2_make_16 rfl (lv_at hl 2 rfl) ?_
        refine lv_bipush (v := 40) hx hb dX2_make_17 (by decide) ?_
        refine lv_icmp_le (tgt := 24) hx hb dX2_make_19 (by decide) (fun c19 => ?_) (fun c19 => ?_)
        · simp only [i_lt, i_le, i_0, i_1, i_2, i_4, i_40, i_100, i_400, i_401] at c19
          refine lv_aload_n hx hb dX2_make_24 rfl (lv_at hl 0 rfl) ?_
          refine va_get (D := D) (ci := 2) (v := .ref a1) (C := RX2) (T := TX2) (N := 5) hx hb hts (iw_X2_make_X2) hown hK (one hp.1) 0 rfl rfl 0 (by decide) (hts (.fieldLink RX2 7 "MethodBookModel" "made" "[Z") (by decide +kernel)) (fun _ h9 => h9) rfl dX2_make_25 ?_
          refine lv_iload_n hx hb dX2_make_28 rfl (lv_at hl 1 rfl) ?_
          refine lv_iconst (v := 1) hx hb dX2_make_29 (by decide) ?_
          refine pw_zast hx hb hK hS (Or.inl rfl) 1 hp.2.1 rfl rfl (vp_in_iff.mpr ⟨by omega, by omega⟩) dX2_make_30 (fun H locs hf hz ho hS => ?_)
          replace hp := my_1 hp hf ho
          refine lv_aload_n hx hb dX2_make_31 rfl (lv_at hl 0 rfl) ?_
          refine va_get (D := D) (ci := 2) (v := .ref a2) (C := RX2) (T := TX2) (N := 5) hx hb hts (iw_X2_make_X2) hown hK (one hp.1) 0 rfl rfl 1 (by decide) (hts (.fieldLink RX2 13 "MethodBookModel" "sizes" "[I") (by decide +kernel)) (fun _ h9 => h9) rfl dX2_make_32 ?_
          refine lv_iload_n hx hb dX2_make_35 rfl (lv_at hl 1 rfl) ?_
          refine lv_iload_n hx hb dX2_make_36 rfl (lv_at hl 3 rfl) ?_
          refine lv_if_eq (tgt := 44) hx hb dX2_make_37 (by decide) (fun c37 => ?_) (fun c37 => ?_)
          · refine lv_iconst (v := (-1)) hx hb dX2_make_44 (by decide) ?_
            refine pw_iast hx hb hK hS (Or.inr (Or.inl rfl)) 0 hp.2.2.1 rfl (vp_in_iff.mpr ⟨by omega, by omega⟩) dX2_make_45 (fun H locs hf hz ho hS => ?_)
            replace hp := my_2 hp hf ho
            refine lv_iconst (v := 0) hx hb dX2_make_46 (by decide) ?_
            refine lv_istore (lv' := [(4, .int 0), (0, .ref h), (1, .int k), (2, .int n), (3, .int (b2i b))]) hx hb dX2_make_47 hl (by decide) rfl (fun ls hl => ?_)
            have loop : ∀ (q i : Nat), i + q = 40 → ∀ (H : Heap) (locs : List Loc) (fl2 : Nat → Int32), (∀ j, j < i → fl2 (40 * k.toNatClampNeg + j) = 0) → (∀ x : Nat, (x < 40 * k.toNatClampNeg ∨ 40 * k.toNatClampNeg + 40 ≤ x) → fl2 x = fl x) → my D cI cZ h a1 a2 a3 (upd md k.toNatClampNeg 1) (upd sz k.toNatClampNeg (-1)) fl2 mt wh H → va_S (fun q : Nat => q = a1 ∨ q = a2 ∨ q = a3) s.heap H locs → ∀ ls : Array Slot, lv_has ls 5 [(0, .ref h), (1, .int k), (2, .int n), (3, .int (b2i b)), (4, .int (nI i))] → W p l e (headSpec wsX2_make ({ frames := 0, cells := 0, slots := 0, locals := 0 })).room s m ([.ref h, .int k, .int n, .int (b2i b)] : List Value).toArray below meth c H locs 0 0 (MQ below (pm_Qi (fun r H1 => (¬ mkok k n ∧ r = 0 ∧ my D cI cZ h a1 a2 a3 md sz fl mt wh H1) ∨ (mkok k n ∧ r = 1 ∧ ∃ (md' sz' fl' : Nat → Int32), rm (mko O k n b) md' sz' fl' ∧ my D cI cZ h a1 a2 a3 md' sz' fl' mt wh H1)) (fun q : Nat => q = a1 ∨ q = a2 ∨ q = a3)) ([.ref h, .int k, .int n, .int (b2i b)] : List Value).toArray s 0 0 (fun q : Nat => q = a1 ∨ q = a2 ∨ q = a3)) (F0 m 49 ls []) := by
              intro q
              induction q with
              | zero =>
                intro i h1 H locs fl2 hz2 hs2 hp hS ls hl
                refine lv_iload hx hb dX2_make_49 (lv_at hl 4 rfl) ?_
                refine lv_bipush (v := 40) hx hb dX2_make_51 (by decide) ?_
                refine lv_icmp_ge (tgt := 75) hx hb dX2_make_53 (by decide) (fun _ => ?_) (fun c9 => absurd (by rw [i_le, i_40, nI_toInt (by omega)]; omega) c9)
                refine lv_iconst (v := 1) hx hb dX2_make_75 (by decide) ?_
                refine W.zret (v := 1) (ty := .boolean) hx hb hr rfl (fun t ht hW => ⟨⟨_, rfl, ?_⟩, hS.F ht⟩) hS.2.2 dX2_make_76
                rw [ht]
                have e9 : i = 40 := by omega
                subst e9
                have eb := b2i_z c37
                subst eb
                refine Or.inr ⟨⟨by omega, by omega, by omega, by omega⟩, rfl, _, _, fl2, ?_, hp⟩
                exact rm_make (nn := n.toNatClampNeg) hrm (by rw [i_cl]; omega) (by rw [i_cl]; omega) (by rw [i_cl]; omega) (rfl) hz2 hs2
              | succ q ih =>
                intro i h1 H locs fl2 hz2 hs2 hp hS ls hl
                have hix := ix_k (k := k) (i := nI i) (j := k.toNatClampNeg) (by rw [i_cl]; omega) (by rw [i_cl]; omega) (by rw [nI_toInt (by omega)]; omega) (by rw [nI_toInt (by omega)]; omega)
                rw [nI_toInt (by omega)] at hix
                have hkc : (k.toNatClampNeg : Int) = k.toInt := by rw [i_cl]; omega
                refine lv_iload hx hb dX2_make_49 (lv_at hl 4 rfl) ?_
                refine lv_bipush (v := 40) hx hb dX2_make_51 (by decide) ?_
                refine lv_icmp_ge (tgt := 75) hx hb dX2_make_53 (by decide) (fun c9 => absurd c9 (by rw [i_le, i_40, nI_toInt (by omega)]; omega)) (fun _ => ?_)
                refine lv_aload_n hx hb dX2_make_56 rfl (lv_at hl 0 rfl) ?_
                refine va_get (D := D) (ci := 2) (v := .ref a3) (C := RX2) (T := TX2) (N := 5) hx hb hts (iw_X2_make_X2) hown hK (one hp.1) 0 rfl rfl 2 (by decide) (hts (.fieldLink RX2 17 "MethodBookModel" "fields" "[I") (by decide +kernel)) (fun _ h9 => h9) rfl dX2_make_57 ?_
                refine lv_bipush (v := 40) hx hb dX2_make_60 (by decide) ?_
                refine lv_iload_n hx hb dX2_make_62 rfl (lv_at hl 1 rfl) ?_
                refine lv_imul hx hb dX2_make_63 ?_
                refine lv_iload hx hb dX2_make_64 (lv_at hl 4 rfl) ?_
                refine lv_iadd hx hb dX2_make_66 ?_
                refine lv_iconst (v := 0) hx hb dX2_make_67 (by decide) ?_
                refine pw_iast hx hb hK hS (Or.inr (Or.inr rfl)) 0 hp.2.2.2.1 rfl (vp_in_iff.mpr ⟨by rw [hix]; omega, by rw [hix]; omega⟩) dX2_make_68 (fun H locs hf hz ho hS => ?_)
                replace hp := my_3 hp hf ho
                have hin : (40 * k + nI i).toNatClampNeg = 40 * k.toNatClampNeg + i := by rw [i_cl, hix]; omega
                rw [hin] at hp
                replace hz2 : ∀ j, j < i + 1 → upd fl2 (40 * k.toNatClampNeg + i) 0 (40 * k.toNatClampNeg + j) = 0 := fun j hj => by
                  by_cases hji : j = i
                  · rw [hji, pk_us]
                  · rw [pk_un (by omega)]
                    exact hz2 j (by omega)
                replace hs2 : ∀ x : Nat, (x < 40 * k.toNatClampNeg ∨ 40 * k.toNatClampNeg + 40 ≤ x) → upd fl2 (40 * k.toNatClampNeg + i) 0 x = fl x := fun x hx9 => by
                  rw [pk_un (by omega)]
                  exact hs2 x hx9
                refine lv_iinc (v := ((nI i) + 1)) (lv' := [(4, .int ((nI i) + 1)), (0, .ref h), (1, .int k), (2, .int n), (3, .int (b2i b))]) hx hb dX2_make_69 hl (k := 4) rfl rfl (by decide) rfl (fun ls hl => ?_)
                refine lv_goto (tgt := 49) hx hb dX2_make_72 (by decide) ?_
                rw [← nI_succ] at hl
                exact ih (i + 1) (by omega) _ _ _ hz2 hs2 hp hS _ (lv_sub hl [1, 2, 3, 4, 0] rfl)
            exact loop 40 0 (by omega) _ _ fl (fun j hj => absurd hj (Nat.not_lt_zero j)) (fun _ _ => rfl) hp hS _ (lv_sub hl [1, 2, 3, 4, 0] rfl)
          · refine lv_iload_n hx hb dX2_make_40 rfl (lv_at hl 2 rfl) ?_
            refine lv_goto (tgt := 45) hx hb dX2_make_41 (by decide) ?_
            refine pw_iast hx hb hK hS (Or.inr (Or.inl rfl)) 0 hp.2.2.1 rfl (vp_in_iff.mpr ⟨by omega, by omega⟩) dX2_make_45 (fun H locs hf hz ho hS => ?_)
            replace hp := my_2 hp hf ho
            refine lv_iconst (v := 0) hx hb dX2_make_46 (by decide) ?_
            refine lv_istore (lv' := [(4, .int 0), (0, .ref h), (1, .int k), (2, .int n), (3, .int (b2i b))]) hx hb dX2_make_47 hl (by decide) rfl (fun ls hl => ?_)
            have loop : ∀ (q i : Nat), i + q = 40 → ∀ (H : Heap) (locs : List Loc) (fl2 : Nat → Int32), (∀ j, j < i → fl2 (40 * k.toNatClampNeg + j) = 0) → (∀ x : Nat, (x < 40 * k.toNatClampNeg ∨ 40 * k.toNatClampNeg + 40 ≤ x) → fl2 x = fl x) → my D cI cZ h a1 a2 a3 (upd md k.toNatClampNeg 1) (upd sz k.toNatClampNeg n) fl2 mt wh H → va_S (fun q : Nat => q = a1 ∨ q = a2 ∨ q = a3) s.heap H locs → ∀ ls : Array Slot, lv_has ls 5 [(0, .ref h), (1, .int k), (2, .int n), (3, .int (b2i b)), (4, .int (nI i))] → W p l e (headSpec wsX2_make ({ frames := 0, cells := 0, slots := 0, locals := 0 })).room s m ([.ref h, .int k, .int n, .int (b2i b)] : List Value).toArray below meth c H locs 0 0 (MQ below (pm_Qi (fun r H1 => (¬ mkok k n ∧ r = 0 ∧ my D cI cZ h a1 a2 a3 md sz fl mt wh H1) ∨ (mkok k n ∧ r = 1 ∧ ∃ (md' sz' fl' : Nat → Int32), rm (mko O k n b) md' sz' fl' ∧ my D cI cZ h a1 a2 a3 md' sz' fl' mt wh H1)) (fun q : Nat => q = a1 ∨ q = a2 ∨ q = a3)) ([.ref h, .int k, .int n, .int (b2i b)] : List Value).toArray s 0 0 (fun q : Nat => q = a1 ∨ q = a2 ∨ q = a3)) (F0 m 49 ls []) := by
              intro q
              induction q with
              | zero =>
                intro i h1 H locs fl2 hz2 hs2 hp hS ls hl
                refine lv_iload hx hb dX2_make_49 (lv_at hl 4 rfl) ?_
                refine lv_bipush (v := 40) hx hb dX2_make_51 (by decide) ?_
                refine lv_icmp_ge (tgt := 75) hx hb dX2_make_53 (by decide) (fun _ => ?_) (fun c9 => absurd (by rw [i_le, i_40, nI_toInt (by omega)]; omega) c9)
                refine lv_iconst (v := 1) hx hb dX2_make_75 (by decide) ?_
                refine W.zret (v := 1) (ty := .boolean) hx hb hr rfl (fun t ht hW => ⟨⟨_, rfl, ?_⟩, hS.F ht⟩) hS.2.2 dX2_make_76
                rw [ht]
                have e9 : i = 40 := by omega
                subst e9
                have eb := b2i_n c37
                subst eb
                refine Or.inr ⟨⟨by omega, by omega, by omega, by omega⟩, rfl, _, _, fl2, ?_, hp⟩
                exact rm_make (nn := n.toNatClampNeg) hrm (by rw [i_cl]; omega) (by rw [i_cl]; omega) (by rw [i_cl]; omega) (by rw [if_pos rfl, i_cl]; exact Int32.toInt_inj.mp (by rw [nI_toInt (by omega)]; omega)) hz2 hs2
              | succ q ih =>
                intro i h1 H locs fl2 hz2 hs2 hp hS ls hl
                have hix := ix_k (k := k) (i := nI i) (j := k.toNatClampNeg) (by rw [i_cl]; omega) (by rw [i_cl]; omega) (by rw [nI_toInt (by omega)]; omega) (by rw [nI_toInt (by omega)]; omega)
                rw [nI_toInt (by omega)] at hix
                have hkc : (k.toNatClampNeg : Int) = k.toInt := by rw [i_cl]; omega
                refine lv_iload hx hb dX2_make_49 (lv_at hl 4 rfl) ?_
                refine lv_bipush (v := 40) hx hb dX2_make_51 (by decide) ?_
                refine lv_icmp_ge (tgt := 75) hx hb dX2_make_53 (by decide) (fun c9 => absurd c9 (by rw [i_le, i_40, nI_toInt (by omega)]; omega)) (fun _ => ?_)
                refine lv_aload_n hx hb dX2_make_56 rfl (lv_at hl 0 rfl) ?_
                refine va_get (D := D) (ci := 2) (v := .ref a3) (C := RX2) (T := TX2) (N := 5) hx hb hts (iw_X2_make_X2) hown hK (one hp.1) 0 rfl rfl 2 (by decide) (hts (.fieldLink RX2 17 "MethodBookModel" "fields" "[I") (by decide +kernel)) (fun _ h9 => h9) rfl dX2_make_57 ?_
                refine lv_bipush (v := 40) hx hb dX2_make_60 (by decide) ?_
                refine lv_iload_n hx hb dX2_make_62 rfl (lv_at hl 1 rfl) ?_
                refine lv_imul hx hb dX2_make_63 ?_
                refine lv_iload hx hb dX2_make_64 (lv_at hl 4 rfl) ?_
                refine lv_iadd hx hb dX2_make_66 ?_
                refine lv_iconst (v := 0) hx hb dX2_make_67 (by decide) ?_
                refine pw_iast hx hb hK hS (Or.inr (Or.inr rfl)) 0 hp.2.2.2.1 rfl (vp_in_iff.mpr ⟨by rw [hix]; omega, by rw [hix]; omega⟩) dX2_make_68 (fun H locs hf hz ho hS => ?_)
                replace hp := my_3 hp hf ho
                have hin : (40 * k + nI i).toNatClampNeg = 40 * k.toNatClampNeg + i := by rw [i_cl, hix]; omega
                rw [hin] at hp
                replace hz2 : ∀ j, j < i + 1 → upd fl2 (40 * k.toNatClampNeg + i) 0 (40 * k.toNatClampNeg + j) = 0 := fun j hj => by
                  by_cases hji : j = i
                  · rw [hji, pk_us]
                  · rw [pk_un (by omega)]
                    exact hz2 j (by omega)
                replace hs2 : ∀ x : Nat, (x < 40 * k.toNatClampNeg ∨ 40 * k.toNatClampNeg + 40 ≤ x) → upd fl2 (40 * k.toNatClampNeg + i) 0 x = fl x := fun x hx9 => by
                  rw [pk_un (by omega)]
                  exact hs2 x hx9
                refine lv_iinc (v := ((nI i) + 1)) (lv' := [(4, .int ((nI i) + 1)), (0, .ref h), (1, .int k), (2, .int n), (3, .int (b2i b))]) hx hb dX2_make_69 hl (k := 4) rfl rfl (by decide) rfl (fun ls hl => ?_)
                refine lv_goto (tgt := 49) hx hb dX2_make_72 (by decide) ?_
                rw [← nI_succ] at hl
                exact ih (i + 1) (by omega) _ _ _ hz2 hs2 hp hS _ (lv_sub hl [1, 2, 3, 4, 0] rfl)
            exact loop 40 0 (by omega) _ _ fl (fun j hj => absurd hj (Nat.not_lt_zero j)) (fun _ _ => rfl) hp hS _ (lv_sub hl [1, 2, 3, 4, 0] rfl)
        · simp only [i_lt, i_le, i_0, i_1, i_2, i_4, i_40, i_100, i_400, i_401] at c19
          refine lv_iconst (v := 0) hx hb dX2_make_22 (by decide) ?_
          refine W.zret (v := 0) (ty := .boolean) hx hb hr rfl (fun t ht hW => ⟨⟨_, rfl, ?_⟩, hS.F ht⟩) hS.2.2 dX2_make_23
          rw [ht]
          exact Or.inl ⟨fun h9 => by obtain ⟨h5, h6, h7, h8⟩ := h9; omega, rfl, hp⟩
set_option maxHeartbeats 4000000 in
set_option maxRecDepth 100000 in
theorem c_X2_init (l : Launch) (D : va_G) (h : Nat) (H0 : Heap) : Met l yX2_init wsX2_init ({ frames := 1, cells := 3, slots := 16842, locals := 12 }) (va_Pc [.ref h] (fun U => (U.heap = H0 ∧ va_at D vwCl (h, .inr (2, [.null, .null, .null, .int 0, .int 0])) H0) ∧ va_K D vwCl [] U)) (pm_Qv (fun t => ∃ (a1 a2 a3 : Nat) (cI cZ : ClassId), my D cI cZ h a1 a2 a3 (fun _ => 0) (fun _ => 0) (fun _ => 0) 0 0 t.heap ∧ (H0.size ≤ a1 ∧ H0.size ≤ a2 ∧ H0.size ≤ a3) ∧ va_K D vwCl [(cI, .int), (cZ, .boolean)] t) (fun q : Nat => q = h ∨ H0.size ≤ q)) 3 16842 (fun q : Nat => q = h ∨ H0.size ≤ q) := by
  refine Met.ofW (cc := cX2_init) (maxL := 1) (ret := none) (by decide) rfl ?_
  intro p e s m args below meth c s₁ B hml hv
  obtain ⟨rfl, hpic, hK⟩ := hv
  have hx := B.exec
  have hb := B.bytes
  have hr := B.returns
  have hts := atoms_spec (ws := wsX2_init) B.pre
  have hown : s.vm.findClass RX2 = some m.cls := findClass_of_methodNamed B.named
  have hlocks := B.notSynchronized
  have hin : meth.name = "<init>" := (name_of_methodNamed B.named B.method).1
  obtain ⟨hH, hp0⟩ := hpic
  subst hH
  have hA : ∀ q : Nat, s.heap.size ≤ q → (fun q : Nat => q = h ∨ s.heap.size ≤ q) q := fun q h => Or.inr h
  have hS : va_S (fun q : Nat => q = h ∨ s.heap.size ≤ q) s.heap s.heap [] := va_S.rf
  have hP : va_P D vwCl [(h, .inr (2, [.null, .null, .null, .int 0, .int 0]))] s.heap := one hp0
  have hD : va_D (fun q : Nat => q = h ∨ s.heap.size ≤ q) [(h, .inr (2, [.null, .null, .null, .int 0, .int 0]))] := d_one (Or.inl rfl)
  have hl := lv_entry ([.ref h]) (n := 1) (Nat.le_of_ble_eq_true rfl)
  rw [lg_entry_eq]
  generalize (lg_sl ([.ref h]) ++ List.replicate (1 - (lg_sl ([.ref h])).length) Slot.unset).toArray = ls at hl ⊢
  have hl : lv_has ls 1 [(0, .ref h)] := hl
  refine lv_aload_n hx hb dX2_init_0 rfl (lv_at hl 0 rfl) ?_
  refine W.objInit hx hb hown (hts (.methodLink RX2 1 objectInit) (by decide +kernel)) (hts (.instanceMethod objectInit) (by decide +kernel)) (hts (.code objectInit ⟨#[0xb1]⟩ 1 none) (by decide +kernel)) rfl (by rw [hml]; exact hl.1) rfl dX2_init_1 (Nat.le_of_ble_eq_true rfl) (Nat.le_of_ble_eq_true rfl) ?_
  refine W.eq (g2 := F0 m 4 ls []) rfl ?_
  refine lv_aload_n hx hb dX2_init_4 rfl (lv_at hl 0 rfl) ?_
  refine lv_sipush (v := 401) hx hb dX2_init_5 (by decide) ?_
  refine va_newa (atype := .boolean) (N' := 401) (a0 := (401, .inl (fun _ => 0))) hx hb (hts (.arrayClass .boolean) (by decide +kernel)) rfl hK hP hD hS hA (fun cA => rfl) (by decide) rfl (Nat.le_of_ble_eq_true rfl) (Nat.le_of_ble_eq_true rfl) (Nat.le_of_ble_eq_true rfl) dX2_init_8 (fun a1 cZ H hK1 hP hD hS => ?_)
  have hP : va_P D vwCl [(h, .inr (2, [.null, .null, .null, .int 0, .int 0])), (a1, .inl (cZ, 401, .inl (fun _ => 0)))] H := hP
  have hD : va_D (fun q : Nat => q = h ∨ s.heap.size ≤ q) [(h, .inr (2, [.null, .null, .null, .int 0, .int 0])), (a1, .inl (cZ, 401, .inl (fun _ => 0)))] := hD
  refine va_putF (D := D) (ci := 2) (v := .ref a1) (ty := .array .boolean) (C := RX2) (T := TX2) (N := 5) hx hb hts iw_X2_init_X2 tyX2 tyX2_ok nmX2 hown hK1 hP hD hS 0 rfl rfl 0 (by decide) (hts (.fieldLink RX2 7 "MethodBookModel" "made" "[Z") (by decide +kernel)) (fun _ h9 => h9) rfl hin rfl (by decide +kernel) rfl rfl (Nat.le_of_ble_eq_true rfl) dX2_init_10 (fun H locs hP hD hS => ?_)
  have hP : va_P D vwCl [(h, .inr (2, [.ref a1, .null, .null, .int 0, .int 0])), (a1, .inl (cZ, 401, .inl (fun _ => 0)))] H := hP
  have hD : va_D (fun q : Nat => q = h ∨ s.heap.size ≤ q) [(h, .inr (2, [.ref a1, .null, .null, .int 0, .int 0])), (a1, .inl (cZ, 401, .inl (fun _ => 0)))] := hD
  refine lv_aload_n hx hb dX2_init_13 rfl (lv_at hl 0 rfl) ?_
  refine lv_sipush (v := 401) hx hb dX2_init_14 (by decide) ?_
  refine va_newa (atype := .int) (N' := 401) (a0 := (401, .inl (fun _ => 0))) hx hb (hts (.arrayClass .int) (by decide +kernel)) rfl hK1 hP hD hS hA (fun cA => rfl) (by decide) rfl (Nat.le_of_ble_eq_true rfl) (Nat.le_of_ble_eq_true rfl) (Nat.le_of_ble_eq_true rfl) dX2_init_17 (fun a2 cI H hK2 hP hD hS => ?_)
  have hP : va_P D vwCl [(h, .inr (2, [.ref a1, .null, .null, .int 0, .int 0])), (a1, .inl (cZ, 401, .inl (fun _ => 0))), (a2, .inl (cI, 401, .inl (fun _ => 0)))] H := hP
  have hD : va_D (fun q : Nat => q = h ∨ s.heap.size ≤ q) [(h, .inr (2, [.ref a1, .null, .null, .int 0, .int 0])), (a1, .inl (cZ, 401, .inl (fun _ => 0))), (a2, .inl (cI, 401, .inl (fun _ => 0)))] := hD
  refine va_putF (D := D) (ci := 2) (v := .ref a2) (ty := .array .int) (C := RX2) (T := TX2) (N := 5) hx hb hts iw_X2_init_X2 tyX2 tyX2_ok nmX2 hown hK2 hP hD hS 0 rfl rfl 1 (by decide) (hts (.fieldLink RX2 13 "MethodBookModel" "sizes" "[I") (by decide +kernel)) (fun _ h9 => h9) rfl hin rfl (by decide +kernel) rfl rfl (Nat.le_of_ble_eq_true rfl) dX2_init_19 (fun H locs hP hD hS => ?_)
  have hP : va_P D vwCl [(h, .inr (2, [.ref a1, .ref a2, .null, .int 0, .int 0])), (a1, .inl (cZ, 401, .inl (fun _ => 0))), (a2, .inl (cI, 401, .inl (fun _ => 0)))] H := hP
  have hD : va_D (fun q : Nat => q = h ∨ s.heap.size ≤ q) [(h, .inr (2, [.ref a1, .ref a2, .null, .int 0, .int 0])), (a1, .inl (cZ, 401, .inl (fun _ => 0))), (a2, .inl (cI, 401, .inl (fun _ => 0)))] := hD
  refine lv_aload_n hx hb dX2_init_22 rfl (lv_at hl 0 rfl) ?_
  refine lv_sipush (v := 16040) hx hb dX2_init_23 (by decide) ?_
  refine va_newa (atype := .int) (N' := 16040) (a0 := (16040, .inl (fun _ => 0))) hx hb (hts (.arrayClass .int) (by decide +kernel)) rfl hK2 hP hD hS hA (fun cA => rfl) (by decide) rfl (Nat.le_of_ble_eq_true rfl) (Nat.le_of_ble_eq_true rfl) (Nat.le_of_ble_eq_true rfl) dX2_init_26 (fun a3 cJ H hK3 hP hD hS => ?_)
  have hP : va_P D vwCl [(h, .inr (2, [.ref a1, .ref a2, .null, .int 0, .int 0])), (a1, .inl (cZ, 401, .inl (fun _ => 0))), (a2, .inl (cI, 401, .inl (fun _ => 0))), (a3, .inl (cJ, 16040, .inl (fun _ => 0)))] H := hP
  have hD : va_D (fun q : Nat => q = h ∨ s.heap.size ≤ q) [(h, .inr (2, [.ref a1, .ref a2, .null, .int 0, .int 0])), (a1, .inl (cZ, 401, .inl (fun _ => 0))), (a2, .inl (cI, 401, .inl (fun _ => 0))), (a3, .inl (cJ, 16040, .inl (fun _ => 0)))] := hD
  refine va_putF (D := D) (ci := 2) (v := .ref a3) (ty := .array .int) (C := RX2) (T := TX2) (N := 5) hx hb hts iw_X2_init_X2 tyX2 tyX2_ok nmX2 hown hK3 hP hD hS 0 rfl rfl 2 (by decide) (hts (.fieldLink RX2 17 "MethodBookModel" "fields" "[I") (by decide +kernel)) (fun _ h9 => h9) rfl hin rfl (by decide +kernel) rfl rfl (Nat.le_of_ble_eq_true rfl) dX2_init_28 (fun H locs hP hD hS => ?_)
  have hP : va_P D vwCl [(h, .inr (2, [.ref a1, .ref a2, .ref a3, .int 0, .int 0])), (a1, .inl (cZ, 401, .inl (fun _ => 0))), (a2, .inl (cI, 401, .inl (fun _ => 0))), (a3, .inl (cJ, 16040, .inl (fun _ => 0)))] H := hP
  have hD : va_D (fun q : Nat => q = h ∨ s.heap.size ≤ q) [(h, .inr (2, [.ref a1, .ref a2, .ref a3, .int 0, .int 0])), (a1, .inl (cZ, 401, .inl (fun _ => 0))), (a2, .inl (cI, 401, .inl (fun _ => 0))), (a3, .inl (cJ, 16040, .inl (fun _ => 0)))] := hD
  have eI : cJ = cI := by
    have h1 := (hK3.2 1 _ rfl).2
    have h2 := (hK3.2 2 _ rfl).2
    exact Option.some.inj (h2.symm.trans h1)
  subst eI
  have ne : ∀ i j : Nat, ∀ x y : Nat × va_E, [(h, .inr (2, [.ref a1, .ref a2, .ref a3, .int 0, .int 0])), (a1, .inl (cZ, 401, .inl (fun _ => 0))), (a2, .inl (cJ, 401, .inl (fun _ => 0))), (a3, .inl (cJ, 16040, .inl (fun _ => 0)))][i]? = some x → [(h, .inr (2, [.ref a1, .ref a2, .ref a3, .int 0, .int 0])), (a1, .inl (cZ, 401, .inl (fun _ => 0))), (a2, .inl (cJ, 401, .inl (fun _ => 0))), (a3, .inl (cJ, 16040, .inl (fun _ => 0)))][j]? = some y → i ≠ j → x.1 ≠ y.1 := fun i j x y hi hj hij he => hij (hD.1 i j x y hi hj he)
  have n1 : h ≠ a1 := ne 0 1 _ _ rfl rfl (by decide)
  have n2 : h ≠ a2 := ne 0 2 _ _ rfl rfl (by decide)
  have n3 : h ≠ a3 := ne 0 3 _ _ rfl rfl (by decide)
  have n4 : a1 ≠ a2 := ne 1 2 _ _ rfl rfl (by decide)
  have n5 : a1 ≠ a3 := ne 1 3 _ _ rfl rfl (by decide)
  have n6 : a2 ≠ a3 := ne 2 3 _ _ rfl rfl (by decide)
  have z1 : s.heap.size ≤ a1 := (hD.2 1 _ rfl).elim (fun h9 => absurd h9.symm n1) id
  have z2 : s.heap.size ≤ a2 := (hD.2 2 _ rfl).elim (fun h9 => absurd h9.symm n2) id
  have z3 : s.heap.size ≤ a3 := (hD.2 3 _ rfl).elim (fun h9 => absurd h9.symm n3) id
  refine W.widen (k := 3) (n := 16842) (Nat.le_of_ble_eq_true rfl) (Nat.le_of_ble_eq_true rfl) ?_
  exact W.vret hx hb hr (fun t ht hW => ⟨⟨rfl, a1, a2, a3, cJ, cZ, by rw [ht]; exact ⟨hP 0 _ rfl, hP 1 _ rfl, hP 2 _ rfl, hP 3 _ rfl, ⟨n1, n2, n3⟩, ⟨n4, n5, n6⟩⟩, ⟨z1, z2, z3⟩, (va_K.moved hW.alike hK3).sub [1, 0] rfl⟩, hS.F ht⟩) hS.2.2 dX2_init_31
end
section
/-! THE CLAIM OUT OF ONE WALK OF THE LAW'S BODY. Your part is whole_start (and what it stands on); all else here is the same for every law, but numbers. -/
def R_law : String := "MethodBookLaw"
def lw_P (b : Addr) (xs : List Int32) (args : Array Value) (s : State) : Prop := args = #[.ref b] ∧ s.IntsAt b xs ∧ xs.length ≤ 2048 ∧ (Jvm.Cond.and given_1 narrow_1).before args s = true
def lw_Q (_ : Array Value) (s : State) (o : Outcome) (t : State) : Prop := o = .returned (some (.int 1)) ∧ Framed s o t [] 600000 7302250
def lw_Z (below : List Frame) (a : Array Value) (s : State) : State → Prop := fun t => ∃ o, t.status = .running ∧ Ended t below o ∧ lw_Q a s o t
/-- the law's own end, with 1 on the stack, nothing written that was there before, its room as the claim has it -/
theorem lw_ret {p : Program} {l : Launch} {e : Env} {s : State} {m : MethodId} {below : List Frame} {meth : Method} {c : Code} {b : Nat} (hx : p.tables.exec = Jvm.exec) (hb : c.code = code) (hr : meth.sig.returnType = ret) (hlocks : meth.locks = false) {pc : Nat} {H : Heap} {ls : Array Slot} (hdg : decode code pc = .ok (.ireturn, 1)) : W p l e room_1 s m #[Value.ref b] below meth c H [] 600000 7302250 (lw_Z below #[Value.ref b] s) (F0 m pc ls [.int 1]) := by
  intro T hT X
  obtain ⟨fs, hret, hrun, hended, hW, hframe⟩ := X.leave (v := some (.int 1)) (hlocks := hlocks) (fun h => by rw [hr] at h; cases h)
  have hmeth' : T.vm.method? m = some meth := X.method'
  refine ⟨T.setFrames fs, ?_, .returned (some (.int 1)), hrun, hended, rfl, ⟨_, rfl⟩, hW, hframe⟩
  jvm_step X.here [X.here.top, hx, hb, hdg, hmeth', hr, ret, narrow_b1]
  (try refine ⟨rfl, ?_⟩); (try refine ⟨rfl, ?_⟩)
  first | (intro acts; rw [hret _ acts rfl rfl rfl]) | rw [hret _ _ rfl rfl rfl]
  exact Steps.refl _
/-- what holds at the law's entry: the machine, the code, the tables' words (any of lw_tbl by 'hts w (by decide +kernel)'), the script of L ints xs at the cell b, what the Statement gives of the start (any of its parts by flat_of_before) -/
def lw_At (p : Program) (s : State) (m : MethodId) (meth : Method) (c : Code) (b L : Nat) (xs : Nat → Int32) : Prop :=
  p.tables.exec = Jvm.exec ∧ c.code = code ∧ meth.sig.returnType = ret ∧ c.maxLocals = 4 ∧ s.vm.findClass R_law = some m.cls ∧ (∀ w ∈ lw_tbl, w.before #[Value.ref b] s = true) ∧ va_X b L xs s s.heap ∧ b < s.heap.size ∧ meth.locks = false ∧ (Jvm.Cond.and given_1 narrow_1).before #[Value.ref b] s = true
end
section
/-! ===== class and reference side by side ===== -/
def LI (D : va_G) (cI cZ cT : ClassId) (z x y : Nat) (O : Ob) (mt wh : Int32) (H : Heap) : Prop :=
  ∃ (ρ : Nat → Nat) (tq : Nat) (th : Nat → Option Nat) (a1 a2 a3 : Nat) (md sz fl : Nat → Int32), px D cI cT ρ x tq th O mt wh H ∧ my D cI cZ y a1 a2 a3 md sz fl mt wh H ∧ rm O md sz fl ∧ (ρ y = 0 ∧ ρ a1 = 0 ∧ ρ a2 = 0 ∧ ρ a3 = 0) ∧ (∀ q, ρ q ≠ 0 → z ≤ q) ∧ (z ≤ y ∧ z ≤ a1 ∧ z ≤ a2 ∧ z ≤ a3)
theorem my_after {D : va_G} {cI cZ : ClassId} {ρ : Nat → Nat} {y a1 a2 a3 : Nat} {md sz fl : Nat → Int32} {mt wh : Int32} {H H1 : Heap} (hq : my D cI cZ y a1 a2 a3 md sz fl mt wh H) (hd : ρ y = 0 ∧ ρ a1 = 0 ∧ ρ a2 = 0 ∧ ρ a3 = 0) (hk : ∀ q, q < H.size → ρ q = 0 → H1[q]? = H[q]?) : my D cI cZ y a1 a2 a3 md sz fl mt wh H1 := by
  refine my_keep hq (fun q h => ?_)
  rcases h with h | h | h | h
  · rw [h]; exact hk y hq.1.lt hd.1
  · rw [h]; exact hk a1 hq.2.1.lt hd.2.1
  · rw [h]; exact hk a2 hq.2.2.1.lt hd.2.2.1
  · rw [h]; exact hk a3 hq.2.2.2.1.lt hd.2.2.2
theorem px_after {D : va_G} {cI cT : ClassId} {ρ : Nat → Nat} {x tq : Nat} {th : Nat → Option Nat} {O : Ob} {mt wh : Int32} {H H1 : Heap} {y a1 a2 a3 : Nat} (hp : px D cI cT ρ x tq th O mt wh H) (hd : ρ y = 0 ∧ ρ a1 = 0 ∧ ρ a2 = 0 ∧ ρ a3 = 0) (hz : H.size ≤ H1.size) (hk : ∀ q, q < H.size → ¬ (q = y ∨ q = a1 ∨ q = a2 ∨ q = a3) → H1[q]? = H[q]?) : px D cI cT ρ x tq th O mt wh H1 := by
  refine px_keep hp hz (fun q h => hk q (hp.2.2.2.2.1 q h) (fun h2 => ?_))
  rcases h2 with h2 | h2 | h2 | h2
  · rw [h2] at h; exact h hd.1
  · rw [h2] at h; exact h hd.2.1
  · rw [h2] at h; exact h hd.2.2.1
  · rw [h2] at h; exact h hd.2.2.2
theorem rho0 {ρ ρ1 : Nat → Nat} {N q : Nat} (h : ∀ q, ρ1 q ≠ 0 → ρ q ≠ 0 ∨ N ≤ q) (hq : ρ q = 0) (hl : q < N) : ρ1 q = 0 := by
  by_cases h1 : ρ1 q = 0
  · exact h1
  · rcases h q h1 with h2 | h2
    · exact absurd hq h2
    · omega
set_option maxHeartbeats 16000000 in
set_option maxRecDepth 100000 in
/-- THE LAW'S LOOP: at its head, with 4 j ints read, class and reference hold the same objects and have found the same -/
theorem law_loop {p : Program} {l : Launch} {e : Env} {s : State} {m : MethodId} {below : List Frame} {meth : Method} {c : Code} {D : va_G} {cI cZ cT : ClassId} {b L : Nat} {xs : Nat → Int32} {x y : Nat} (hL : L ≤ 2048) (C0 : lw_At p s m meth c b L xs) (hKN : KN D cI cZ cT s) :
    ∀ (n j : Nat), L < 4 * (j + n) + 4 → 4 * j ≤ L → ∀ (O : Ob) (mt wh : Int32) (H : Heap) (locs : List Loc), LI D cI cZ cT s.heap.size x y O mt wh H → va_S (fun q : Nat => s.heap.size ≤ q) s.heap H locs → ∀ ls : Array Slot, lv_has ls 4 [(0, .ref b), (1, .ref x), (2, .ref y), (3, .int (nI (4 * j)))] → W p l e room_1 s m #[Value.ref b] below meth c H locs (6 + 2 * j) (17251 + 42 * j) (lw_Z below #[Value.ref b] s) (F0 m 18 ls []) := by
  obtain ⟨hx, hb, hr, hml, hown, hts0, hX, hbl, hlocks, hgv⟩ := C0
  have hts : ∀ w ∈ wsL_law, w.before #[Value.ref b] s = true := fun w h => hts0 w (wsL_law_in w h)
  have hown : s.vm.findClass RL = some m.cls := hown
  have hbA : ¬ (fun q : Nat => s.heap.size ≤ q) b := Nat.not_le.mpr hbl
  have hK := hKN.1
  have hL4 : (Int32.ofNat L - 4).toInt = L - 4 := by
    have h1 : (Int32.ofNat L).toInt = L := nI_toInt (by omega)
    rw [i_sub _ _ (by rw [h1, i_4]; omega) (by rw [h1, i_4]; omega), h1, i_4]
  intro n
  induction n with
  | zero =>
    intro j h1 h2 O mt wh H locs hLI hS ls hl
    obtain ⟨ρ, tq, th, a1, a2, a3, md, sz, fl, hp, hq, hrm, hd, ho, hz2⟩ := hLI
    have hi0 : (nI (4 * j)).toInt = 4 * j := by rw [nI_toInt (by omega)]; omega
    refine lv_iload_n hx hb dL_law_18 rfl (lv_at hl 3 rfl) ?_
    refine lv_aload_n hx hb dL_law_19 rfl (lv_at hl 0 rfl) ?_
    refine va_slen hx hb hX hbl hbA hS dL_law_20 ?_
    refine lv_iconst (v := 4) hx hb dL_law_21 (by decide) ?_
    refine lv_isub hx hb dL_law_22 ?_
    refine lv_icmp_gt (tgt := 454) hx hb dL_law_23 (by decide) (fun _ => ?_) (fun c9 => absurd (by rw [i_lt, hL4, hi0]; omega) c9)
    refine lv_iconst (v := 1) hx hb dL_law_454 (by decide) ?_
    refine va_forget (fun q hq => hS.2.2 q hq) ?_
    refine W.widen (k := 600000) (n := 7302250) (by omega) (by omega) ?_
    exact lw_ret hx hb hr hlocks dL_law_455
  | succ n ih =>
    intro j h1 h2 O mt wh H locs hLI hS ls hl
    obtain ⟨ρ, tq, th, a1, a2, a3, md, sz, fl, hp, hq, hrm, hd, ho, hz2⟩ := hLI
    have hi0 : (nI (4 * j)).toInt = 4 * j := by rw [nI_toInt (by omega)]; omega
    have hi1 : (nI (4 * j) + 1).toInt = 4 * j + 1 := by rw [i_add _ _ (by rw [hi0]; show _ ≤ (_ : Int) + 1; omega) (by rw [hi0]; show (_ : Int) + 1 < _; omega), hi0]; rfl
    have hi2 : (nI (4 * j) + 2).toInt = 4 * j + 2 := by rw [i_add _ _ (by rw [hi0]; show _ ≤ (_ : Int) + 2; omega) (by rw [hi0]; show (_ : Int) + 2 < _; omega), hi0]; rfl
    have hi3 : (nI (4 * j) + 3).toInt = 4 * j + 3 := by rw [i_add _ _ (by rw [hi0]; show _ ≤ (_ : Int) + 3; omega) (by rw [hi0]; show (_ : Int) + 3 < _; omega), hi0]; rfl
    have hi4 : nI (4 * j) + 4 = nI (4 * (j + 1)) := by
      apply Int32.toInt_inj.mp
      rw [i_add _ _ (by rw [hi0, i_4]; omega) (by rw [hi0, i_4]; omega), hi0, i_4, nI_toInt (by omega)]
      omega
    refine lv_iload_n hx hb dL_law_18 rfl (lv_at hl 3 rfl) ?_
    refine lv_aload_n hx hb dL_law_19 rfl (lv_at hl 0 rfl) ?_
    refine va_slen hx hb hX hbl hbA hS dL_law_20 ?_
    refine lv_iconst (v := 4) hx hb dL_law_21 (by decide) ?_
    refine lv_isub hx hb dL_law_22 ?_
    refine lv_icmp_gt (tgt := 454) hx hb dL_law_23 (by decide) (fun c23 => ?_) (fun c23 => ?_)
    · simp only [i_lt, i_le, i_0, i_1, i_2, i_4, i_40, i_100, i_400, i_401] at c23
      rw [hL4, hi0] at c23
      refine lv_iconst (v := 1) hx hb dL_law_454 (by decide) ?_
      refine va_forget (fun q hq => hS.2.2 q hq) ?_
      refine W.widen (k := 600000) (n := 7302250) (by omega) (by omega) ?_
      exact lw_ret hx hb hr hlocks dL_law_455
    · simp only [i_lt, i_le, i_0, i_1, i_2, i_4, i_40, i_100, i_400, i_401] at c23
      rw [hL4, hi0] at c23
      refine lv_aload_n hx hb dL_law_26 rfl (lv_at hl 0 rfl) ?_
      refine lv_iload_n hx hb dL_law_27 rfl (lv_at hl 3 rfl) ?_
      refine va_sld hx hb hX hbl hbA hS (vp_in_iff.mpr ⟨by rw [hi0]; omega, by rw [hi0]; omega⟩) dL_law_28 ?_
      refine lv_bipush (v := 15) hx hb dL_law_29 (by decide) ?_
      refine lv_iand hx hb dL_law_31 ?_
      have hv := vp_in_iff.mp (pk_andIn (xs (nI (4 * j)).toNatClampNeg) (m := 15) 4 (by decide) (by decide))
      refine lv_topi (fun v ev => ?_)
      rw [← ev] at hv
      rcases (show v.toInt = 0 ∨ v.toInt = 1 ∨ v.toInt = 2 ∨ v.toInt = 3 ∨ v.toInt = 4 ∨ v.toInt = 5 ∨ v.toInt = 6 ∨ v.toInt = 7 ∨ v.toInt = 8 ∨ v.toInt = 9 ∨ v.toInt = 10 ∨ v.toInt = 11 ∨ 11 < v.toInt by omega) with q | q | q | q | q | q | q | q | q | q | q | q | q
      · refine lv_tableIn (off := 64) (tgt := 96) hx hb dL_law_32 (by rw [q]; decide) (by rw [q]; decide) (by rw [q]; decide) (by decide) ?_
        refine lv_aload_n hx hb dL_law_96 rfl (lv_at hl 1 rfl) ?_
        refine lv_aload_n hx hb dL_law_97 rfl (lv_at hl 0 rfl) ?_
        refine lv_iload_n hx hb dL_law_98 rfl (lv_at hl 3 rfl) ?_
        refine lv_iconst (v := 1) hx hb dL_law_99 (by decide) ?_
        refine lv_iadd hx hb dL_law_100 ?_
        refine va_sld hx hb hX hbl hbA hS (vp_in_iff.mpr ⟨by rw [hi1]; omega, by rw [hi1]; omega⟩) dL_law_101 ?_
        refine lv_aload_n hx hb dL_law_102 rfl (lv_at hl 0 rfl) ?_
        refine lv_iload_n hx hb dL_law_103 rfl (lv_at hl 3 rfl) ?_
        refine lv_iconst (v := 2) hx hb dL_law_104 (by decide) ?_
        refine lv_iadd hx hb dL_law_105 ?_
        refine va_sld hx hb hX hbl hbA hS (vp_in_iff.mpr ⟨by rw [hi2]; omega, by rw [hi2]; omega⟩) dL_law_106 ?_
        refine lv_aload_n hx hb dL_law_107 rfl (lv_at hl 0 rfl) ?_
        refine lv_iload_n hx hb dL_law_108 rfl (lv_at hl 3 rfl) ?_
        refine lv_iconst (v := 3) hx hb dL_law_109 (by decide) ?_
        refine lv_iadd hx hb dL_law_110 ?_
        refine va_sld hx hb hX hbl hbA hS (vp_in_iff.mpr ⟨by rw [hi3]; omega, by rw [hi3]; omega⟩) dL_law_111 ?_
        refine lv_if_eq (tgt := 119) hx hb dL_law_112 (by decide) (fun c112 => ?_) (fun c112 => ?_)
        · refine lv_iconst (v := 0) hx hb dL_law_119 (by decide) ?_
          have hS0 := hS
          refine pm_i (va_runV (As := [.int (xs ((nI (4 * j)) + 1).toNatClampNeg), .int (xs ((nI (4 * j)) + 2).toNatClampNeg), .int 0]) (rest := []) ⟨hx, hb, hml, hown, hts⟩ (c_X1_make l D cI cZ cT ρ x tq th O mt wh _ (xs ((nI (4 * j)) + 1).toNatClampNeg) (xs ((nI (4 * j)) + 2).toNatClampNeg) false) (cwV 3 hts gL_law_X1_make rfl rfl rfl (by decide +kernel) ⟨Nat.le_of_ble_eq_true rfl, Nat.le_of_ble_eq_true rfl⟩) (pre_v ⟨rfl, hp⟩ hKN (recv hKN hp.1 rfl)) rfl rfl hl.1 rfl (lv_room (Nat.le_of_ble_eq_true rfl)) dL_law_120 ⟨by show _ ≤ 600000; omega, by show _ ≤ 7302250; omega⟩) hS (fun q _ h9 => h9.elim (ho q) (fun h8 => Nat.le_trans hS0.1 h8)) (fun q h9 => h9.elim (ho q) (fun h8 => Nat.le_trans hS0.1 h8)) (fun r120 H locs hr120 hz hk hS => ?_)
          have hq1 := my_after hq hd (fun q h1 h2 => hk q h1 (fun h3 => h3.elim (fun h4 => h4 h2) (fun h4 => by omega)))
          rcases hr120 with ⟨kx, ex, hp1⟩ | ⟨kx, ex, ρ1, th1, hp1, hρ1⟩
          · rw [ex]
            refine lv_aload_n hx hb dL_law_123 rfl (lv_at hl 2 rfl) ?_
            refine lv_aload_n hx hb dL_law_124 rfl (lv_at hl 0 rfl) ?_
            refine lv_iload_n hx hb dL_law_125 rfl (lv_at hl 3 rfl) ?_
            refine lv_iconst (v := 1) hx hb dL_law_126 (by decide) ?_
            refine lv_iadd hx hb dL_law_127 ?_
            refine va_sld hx hb hX hbl hbA hS (vp_in_iff.mpr ⟨by rw [hi1]; omega, by rw [hi1]; omega⟩) dL_law_128 ?_
            refine lv_aload_n hx hb dL_law_129 rfl (lv_at hl 0 rfl) ?_
            refine lv_iload_n hx hb dL_law_130 rfl (lv_at hl 3 rfl) ?_
            refine lv_iconst (v := 2) hx hb dL_law_131 (by decide) ?_
            refine lv_iadd hx hb dL_law_132 ?_
            refine va_sld hx hb hX hbl hbA hS (vp_in_iff.mpr ⟨by rw [hi2]; omega, by rw [hi2]; omega⟩) dL_law_133 ?_
            refine lv_aload_n hx hb dL_law_134 rfl (lv_at hl 0 rfl) ?_
            refine lv_iload_n hx hb dL_law_135 rfl (lv_at hl 3 rfl) ?_
            refine lv_iconst (v := 3) hx hb dL_law_136 (by decide) ?_
            refine lv_iadd hx hb dL_law_137 ?_
            refine va_sld hx hb hX hbl hbA hS (vp_in_iff.mpr ⟨by rw [hi3]; omega, by rw [hi3]; omega⟩) dL_law_138 ?_
            refine lv_if_eq (tgt := 146) hx hb dL_law_139 (by decide) (fun _ => ?_) (fun c9 => absurd c112 c9)
            refine lv_iconst (v := 0) hx hb dL_law_146 (by decide) ?_
            refine pm_i (va_runV (As := [.int (xs ((nI (4 * j)) + 1).toNatClampNeg), .int (xs ((nI (4 * j)) + 2).toNatClampNeg), .int 0]) (rest := [.int 0]) ⟨hx, hb, hml, hown, hts⟩ (c_X2_make l D cI cZ cT y a1 a2 a3 md sz fl O hrm mt wh _ (xs ((nI (4 * j)) + 1).toNatClampNeg) (xs ((nI (4 * j)) + 2).toNatClampNeg) false) (cwV 3 hts gL_law_X2_make rfl rfl rfl (by decide +kernel) ⟨Nat.le_of_ble_eq_true rfl, Nat.le_of_ble_eq_true rfl⟩) (pre_v ⟨rfl, hq1⟩ hKN (recv hKN hq1.1 rfl)) rfl rfl hl.1 rfl (lv_room (Nat.le_of_ble_eq_true rfl)) dL_law_147 ⟨by show _ ≤ 600000; omega, by show _ ≤ 7302250; omega⟩) hS (fun q _ h9 => by rcases h9 with h9 | h9 | h9 <;> (show s.heap.size ≤ q) <;> rw [h9] <;> first | exact hz2.2.1 | exact hz2.2.2.1 | exact hz2.2.2.2) (fun q h9 => by rcases h9 with h9 | h9 | h9 <;> (show s.heap.size ≤ q) <;> rw [h9] <;> first | exact hz2.2.1 | exact hz2.2.2.1 | exact hz2.2.2.2) (fun r147 H locs hr147 hz hk hS => ?_)
            have hp2 := px_after hp1 hd hz (fun q h1 h2 => hk q h1 (fun h3 => h2 (Or.inr h3)))
            rcases hr147 with ⟨ky, ey, hq2⟩ | ⟨ky, ey, md2, sz2, fl2, hrm2, hq2⟩
            · rw [ey]
              refine lv_icmp_eq (tgt := 448) hx hb dL_law_150 (by decide) (fun _ => ?_) (fun c9 => absurd (by decide) c9)
              refine lv_iinc (v := ((nI (4 * j)) + 4)) (lv' := [(3, .int ((nI (4 * j)) + 4)), (0, .ref b), (1, .ref x), (2, .ref y)]) hx hb dL_law_448 hl (k := 3) rfl rfl (by decide) rfl (fun ls hl => ?_)
              refine lv_goto (tgt := 18) hx hb dL_law_451 (by decide) ?_
              rw [hi4] at hl
              refine W.widen (k := 6 + 2 * (j + 1)) (n := 17251 + 42 * (j + 1)) (by omega) (by omega) ?_
              exact ih (j + 1) (by omega) (by omega) _ _ _ _ _ ⟨_, _, _, _, _, _, _, _, _, hp2, hq2, hrm, hd, ho, hz2⟩ hS _ (lv_sub hl [1, 2, 3, 0] rfl)
            · exact absurd ky kx
          · rw [ex]
            have hd1 : ρ1 y = 0 ∧ ρ1 a1 = 0 ∧ ρ1 a2 = 0 ∧ ρ1 a3 = 0 := ⟨rho0 hρ1 hd.1 hq.1.lt, rho0 hρ1 hd.2.1 hq.2.1.lt, rho0 hρ1 hd.2.2.1 hq.2.2.1.lt, rho0 hρ1 hd.2.2.2 hq.2.2.2.1.lt⟩
            have ho1 : ∀ q, ρ1 q ≠ 0 → s.heap.size ≤ q := fun q h9 => (hρ1 q h9).elim (ho q) (fun h8 => Nat.le_trans hS0.1 h8)
            refine lv_aload_n hx hb dL_law_123 rfl (lv_at hl 2 rfl) ?_
            refine lv_aload_n hx hb dL_law_124 rfl (lv_at hl 0 rfl) ?_
            refine lv_iload_n hx hb dL_law_125 rfl (lv_at hl 3 rfl) ?_
            refine lv_iconst (v := 1) hx hb dL_law_126 (by decide) ?_
            refine lv_iadd hx hb dL_law_127 ?_
            refine va_sld hx hb hX hbl hbA hS (vp_in_iff.mpr ⟨by rw [hi1]; omega, by rw [hi1]; omega⟩) dL_law_128 ?_
            refine lv_aload_n hx hb dL_law_129 rfl (lv_at hl 0 rfl) ?_
            refine lv_iload_n hx hb dL_law_130 rfl (lv_at hl 3 rfl) ?_
            refine lv_iconst (v := 2) hx hb dL_law_131 (by decide) ?_
            refine lv_iadd hx hb dL_law_132 ?_
            refine va_sld hx hb hX hbl hbA hS (vp_in_iff.mpr ⟨by rw [hi2]; omega, by rw [hi2]; omega⟩) dL_law_133 ?_
            refine lv_aload_n hx hb dL_law_134 rfl (lv_at hl 0 rfl) ?_
            refine lv_iload_n hx hb dL_law_135 rfl (lv_at hl 3 rfl) ?_
            refine lv_iconst (v := 3) hx hb dL_law_136 (by decide) ?_
            refine lv_iadd hx hb dL_law_137 ?_
            refine va_sld hx hb hX hbl hbA hS (vp_in_iff.mpr ⟨by rw [hi3]; omega, by rw [hi3]; omega⟩) dL_law_138 ?_
            refine lv_if_eq (tgt := 146) hx hb dL_law_139 (by decide) (fun _ => ?_) (fun c9 => absurd c112 c9)
            refine lv_iconst (v := 0) hx hb dL_law_146 (by decide) ?_
            refine pm_i (va_runV (As := [.int (xs ((nI (4 * j)) + 1).toNatClampNeg), .int (xs ((nI (4 * j)) + 2).toNatClampNeg), .int 0]) (rest := [.int 1]) ⟨hx, hb, hml, hown, hts⟩ (c_X2_make l D cI cZ cT y a1 a2 a3 md sz fl O hrm mt wh _ (xs ((nI (4 * j)) + 1).toNatClampNeg) (xs ((nI (4 * j)) + 2).toNatClampNeg) false) (cwV 3 hts gL_law_X2_make rfl rfl rfl (by decide +kernel) ⟨Nat.le_of_ble_eq_true rfl, Nat.le_of_ble_eq_true rfl⟩) (pre_v ⟨rfl, hq1⟩ hKN (recv hKN hq1.1 rfl)) rfl rfl hl.1 rfl (lv_room (Nat.le_of_ble_eq_true rfl)) dL_law_147 ⟨by show _ ≤ 600000; omega, by show _ ≤ 7302250; omega⟩) hS (fun q _ h9 => by rcases h9 with h9 | h9 | h9 <;> (show s.heap.size ≤ q) <;> rw [h9] <;> first | exact hz2.2.1 | exact hz2.2.2.1 | exact hz2.2.2.2) (fun q h9 => by rcases h9 with h9 | h9 | h9 <;> (show s.heap.size ≤ q) <;> rw [h9] <;> first | exact hz2.2.1 | exact hz2.2.2.1 | exact hz2.2.2.2) (fun r147 H locs hr147 hz hk hS => ?_)
            have hp2 := px_after hp1 hd1 hz (fun q h1 h2 => hk q h1 (fun h3 => h2 (Or.inr h3)))
            rcases hr147 with ⟨ky, ey, hq2⟩ | ⟨ky, ey, md2, sz2, fl2, hrm2, hq2⟩
            · exact absurd kx ky
            · rw [ey]
              refine lv_icmp_eq (tgt := 448) hx hb dL_law_150 (by decide) (fun _ => ?_) (fun c9 => absurd (by decide) c9)
              refine lv_iinc (v := ((nI (4 * j)) + 4)) (lv' := [(3, .int ((nI (4 * j)) + 4)), (0, .ref b), (1, .ref x), (2, .ref y)]) hx hb dL_law_448 hl (k := 3) rfl rfl (by decide) rfl (fun ls hl => ?_)
              refine lv_goto (tgt := 18) hx hb dL_law_451 (by decide) ?_
              rw [hi4] at hl
              refine W.widen (k := 6 + 2 * (j + 1)) (n := 17251 + 42 * (j + 1)) (by omega) (by omega) ?_
              exact ih (j + 1) (by omega) (by omega) _ _ _ _ _ ⟨_, _, _, _, _, _, _, _, _, hp2, hq2, hrm2, hd1, ho1, hz2⟩ hS _ (lv_sub hl [1, 2, 3, 0] rfl)
        · refine lv_iconst (v := 1) hx hb dL_law_115 (by decide) ?_
          refine lv_goto (tgt := 120) hx hb dL_law_116 (by decide) ?_
          have hS0 := hS
          refine pm_i (va_runV (As := [.int (xs ((nI (4 * j)) + 1).toNatClampNeg), .int (xs ((nI (4 * j)) + 2).toNatClampNeg), .int 1]) (rest := []) ⟨hx, hb, hml, hown, hts⟩ (c_X1_make l D cI cZ cT ρ x tq th O mt wh _ (xs ((nI (4 * j)) + 1).toNatClampNeg) (xs ((nI (4 * j)) + 2).toNatClampNeg) true) (cwV 3 hts gL_law_X1_make rfl rfl rfl (by decide +kernel) ⟨Nat.le_of_ble_eq_true rfl, Nat.le_of_ble_eq_true rfl⟩) (pre_v ⟨rfl, hp⟩ hKN (recv hKN hp.1 rfl)) rfl rfl hl.1 rfl (lv_room (Nat.le_of_ble_eq_true rfl)) dL_law_120 ⟨by show _ ≤ 600000; omega, by show _ ≤ 7302250; omega⟩) hS (fun q _ h9 => h9.elim (ho q) (fun h8 => Nat.le_trans hS0.1 h8)) (fun q h9 => h9.elim (ho q) (fun h8 => Nat.le_trans hS0.1 h8)) (fun r120 H locs hr120 hz hk hS => ?_)
          have hq1 := my_after hq hd (fun q h1 h2 => hk q h1 (fun h3 => h3.elim (fun h4 => h4 h2) (fun h4 => by omega)))
          rcases hr120 with ⟨kx, ex, hp1⟩ | ⟨kx, ex, ρ1, th1, hp1, hρ1⟩
          · rw [ex]
            refine lv_aload_n hx hb dL_law_123 rfl (lv_at hl 2 rfl) ?_
            refine lv_aload_n hx hb dL_law_124 rfl (lv_at hl 0 rfl) ?_
            refine lv_iload_n hx hb dL_law_125 rfl (lv_at hl 3 rfl) ?_
            refine lv_iconst (v := 1) hx hb dL_law_126 (by decide) ?_
            refine lv_iadd hx hb dL_law_127 ?_
            refine va_sld hx hb hX hbl hbA hS (vp_in_iff.mpr ⟨by rw [hi1]; omega, by rw [hi1]; omega⟩) dL_law_128 ?_
            refine lv_aload_n hx hb dL_law_129 rfl (lv_at hl 0 rfl) ?_
            refine lv_iload_n hx hb dL_law_130 rfl (lv_at hl 3 rfl) ?_
            refine lv_iconst (v := 2) hx hb dL_law_131 (by decide) ?_
            refine lv_iadd hx hb dL_law_132 ?_
            refine va_sld hx hb hX hbl hbA hS (vp_in_iff.mpr ⟨by rw [hi2]; omega, by rw [hi2]; omega⟩) dL_law_133 ?_
            refine lv_aload_n hx hb dL_law_134 rfl (lv_at hl 0 rfl) ?_
            refine lv_iload_n hx hb dL_law_135 rfl (lv_at hl 3 rfl) ?_
            refine lv_iconst (v := 3) hx hb dL_law_136 (by decide) ?_
            refine lv_iadd hx hb dL_law_137 ?_
            refine va_sld hx hb hX hbl hbA hS (vp_in_iff.mpr ⟨by rw [hi3]; omega, by rw [hi3]; omega⟩) dL_law_138 ?_
            refine lv_if_eq (tgt := 146) hx hb dL_law_139 (by decide) (fun c9 => absurd c9 c112) (fun _ => ?_)
            refine lv_iconst (v := 1) hx hb dL_law_142 (by decide) ?_
            refine lv_goto (tgt := 147) hx hb dL_law_143 (by decide) ?_
            refine pm_i (va_runV (As := [.int (xs ((nI (4 * j)) + 1).toNatClampNeg), .int (xs ((nI (4 * j)) + 2).toNatClampNeg), .int 1]) (rest := [.int 0]) ⟨hx, hb, hml, hown, hts⟩ (c_X2_make l D cI cZ cT y a1 a2 a3 md sz fl O hrm mt wh _ (xs ((nI (4 * j)) + 1).toNatClampNeg) (xs ((nI (4 * j)) + 2).toNatClampNeg) true) (cwV 3 hts gL_law_X2_make rfl rfl rfl (by decide +kernel) ⟨Nat.le_of_ble_eq_true rfl, Nat.le_of_ble_eq_true rfl⟩) (pre_v ⟨rfl, hq1⟩ hKN (recv hKN hq1.1 rfl)) rfl rfl hl.1 rfl (lv_room (Nat.le_of_ble_eq_true rfl)) dL_law_147 ⟨by show _ ≤ 600000; omega, by show _ ≤ 7302250; omega⟩) hS (fun q _ h9 => by rcases h9 with h9 | h9 | h9 <;> (show s.heap.size ≤ q) <;> rw [h9] <;> first | exact hz2.2.1 | exact hz2.2.2.1 | exact hz2.2.2.2) (fun q h9 => by rcases h9 with h9 | h9 | h9 <;> (show s.heap.size ≤ q) <;> rw [h9] <;> first | exact hz2.2.1 | exact hz2.2.2.1 | exact hz2.2.2.2) (fun r147 H locs hr147 hz hk hS => ?_)
            have hp2 := px_after hp1 hd hz (fun q h1 h2 => hk q h1 (fun h3 => h2 (Or.inr h3)))
            rcases hr147 with ⟨ky, ey, hq2⟩ | ⟨ky, ey, md2, sz2, fl2, hrm2, hq2⟩
            · rw [ey]
              refine lv_icmp_eq (tgt := 448) hx hb dL_law_150 (by decide) (fun _ => ?_) (fun c9 => absurd (by decide) c9)
              refine lv_iinc (v := ((nI (4 * j)) + 4)) (lv' := [(3, .int ((nI (4 * j)) + 4)), (0, .ref b), (1, .ref x), (2, .ref y)]) hx hb dL_law_448 hl (k := 3) rfl rfl (by decide) rfl (fun ls hl => ?_)
              refine lv_goto (tgt := 18) hx hb dL_law_451 (by decide) ?_
              rw [hi4] at hl
              refine W.widen (k := 6 + 2 * (j + 1)) (n := 17251 + 42 * (j + 1)) (by omega) (by omega) ?_
              exact ih (j + 1) (by omega) (by omega) _ _ _ _ _ ⟨_, _, _, _, _, _, _, _, _, hp2, hq2, hrm, hd, ho, hz2⟩ hS _ (lv_sub hl [1, 2, 3, 0] rfl)
            · exact absurd ky kx
          · rw [ex]
            have hd1 : ρ1 y = 0 ∧ ρ1 a1 = 0 ∧ ρ1 a2 = 0 ∧ ρ1 a3 = 0 := ⟨rho0 hρ1 hd.1 hq.1.lt, rho0 hρ1 hd.2.1 hq.2.1.lt, rho0 hρ1 hd.2.2.1 hq.2.2.1.lt, rho0 hρ1 hd.2.2.2 hq.2.2.2.1.lt⟩
            have ho1 : ∀ q, ρ1 q ≠ 0 → s.heap.size ≤ q := fun q h9 => (hρ1 q h9).elim (ho q) (fun h8 => Nat.le_trans hS0.1 h8)
            refine lv_aload_n hx hb dL_law_123 rfl (lv_at hl 2 rfl) ?_
            refine lv_aload_n hx hb dL_law_124 rfl (lv_at hl 0 rfl) ?_
            refine lv_iload_n hx hb dL_law_125 rfl (lv_at hl 3 rfl) ?_
            refine lv_iconst (v := 1) hx hb dL_law_126 (by decide) ?_
            refine lv_iadd hx hb dL_law_127 ?_
            refine va_sld hx hb hX hbl hbA hS (vp_in_iff.mpr ⟨by rw [hi1]; omega, by rw [hi1]; omega⟩) dL_law_128 ?_
            refine lv_aload_n hx hb dL_law_129 rfl (lv_at hl 0 rfl) ?_
            refine lv_iload_n hx hb dL_law_130 rfl (lv_at hl 3 rfl) ?_
            refine lv_iconst (v := 2) hx hb dL_law_131 (by decide) ?_
            refine lv_iadd hx hb dL_law_132 ?_
            refine va_sld hx hb hX hbl hbA hS (vp_in_iff.mpr ⟨by rw [hi2]; omega, by rw [hi2]; omega⟩) dL_law_133 ?_
            refine lv_aload_n hx hb dL_law_134 rfl (lv_at hl 0 rfl) ?_
            refine lv_iload_n hx hb dL_law_135 rfl (lv_at hl 3 rfl) ?_
            refine lv_iconst (v := 3) hx hb dL_law_136 (by decide) ?_
            refine lv_iadd hx hb dL_law_137 ?_
            refine va_sld hx hb hX hbl hbA hS (vp_in_iff.mpr ⟨by rw [hi3]; omega, by rw [hi3]; omega⟩) dL_law_138 ?_
            refine lv_if_eq (tgt := 146) hx hb dL_law_139 (by decide) (fun c9 => absurd c9 c112) (fun _ => ?_)
            refine lv_iconst (v := 1) hx hb dL_law_142 (by decide) ?_
            refine lv_goto (tgt := 147) hx hb dL_law_143 (by decide) ?_
            refine pm_i (va_runV (As := [.int (xs ((nI (4 * j)) + 1).toNatClampNeg), .int (xs ((nI (4 * j)) + 2).toNatClampNeg), .int 1]) (rest := [.int 1]) ⟨hx, hb, hml, hown, hts⟩ (c_X2_make l D cI cZ cT y a1 a2 a3 md sz fl O hrm mt wh _ (xs ((nI (4 * j)) + 1).toNatClampNeg) (xs ((nI (4 * j)) + 2).toNatClampNeg) true) (cwV 3 hts gL_law_X2_make rfl rfl rfl (by decide +kernel) ⟨Nat.le_of_ble_eq_true rfl, Nat.le_of_ble_eq_true rfl⟩) (pre_v ⟨rfl, hq1⟩ hKN (recv hKN hq1.1 rfl)) rfl rfl hl.1 rfl (lv_room (Nat.le_of_ble_eq_true rfl)) dL_law_147 ⟨by show _ ≤ 600000; omega, by show _ ≤ 7302250; omega⟩) hS (fun q _ h9 => by rcases h9 with h9 | h9 | h9 <;> (show s.heap.size ≤ q) <;> rw [h9] <;> first | exact hz2.2.1 | exact hz2.2.2.1 | exact hz2.2.2.2) (fun q h9 => by rcases h9 with h9 | h9 | h9 <;> (show s.heap.size ≤ q) <;> rw [h9] <;> first | exact hz2.2.1 | exact hz2.2.2.1 | exact hz2.2.2.2) (fun r147 H locs hr147 hz hk hS => ?_)
            have hp2 := px_after hp1 hd1 hz (fun q h1 h2 => hk q h1 (fun h3 => h2 (Or.inr h3)))
            rcases hr147 with ⟨ky, ey, hq2⟩ | ⟨ky, ey, md2, sz2, fl2, hrm2, hq2⟩
            · exact absurd kx ky
            · rw [ey]
              refine lv_icmp_eq (tgt := 448) hx hb dL_law_150 (by decide) (fun _ => ?_) (fun c9 => absurd (by decide) c9)
              refine lv_iinc (v := ((nI (4 * j)) + 4)) (lv' := [(3, .int ((nI (4 * j)) + 4)), (0, .ref b), (1, .ref x), (2, .ref y)]) hx hb dL_law_448 hl (k := 3) rfl rfl (by decide) rfl (fun ls hl => ?_)
              refine lv_goto (tgt := 18) hx hb dL_law_451 (by decide) ?_
              rw [hi4] at hl
              refine W.widen (k := 6 + 2 * (j + 1)) (n := 17251 + 42 * (j + 1)) (by omega) (by omega) ?_
              exact ih (j + 1) (by omega) (by omega) _ _ _ _ _ ⟨_, _, _, _, _, _, _, _, _, hp2, hq2, hrm2, hd1, ho1, hz2⟩ hS _ (lv_sub hl [1, 2, 3, 0] rfl)
      · refine lv_tableIn (off := 123) (tgt := 155) hx hb dL_law_32 (by rw [q]; decide) (by rw [q]; decide) (by rw [q]; decide) (by decide) ?_
        refine lv_aload_n hx hb dL_law_155 rfl (lv_at hl 1 rfl) ?_
        refine lv_aload_n hx hb dL_law_156 rfl (lv_at hl 0 rfl) ?_
        refine lv_iload_n hx hb dL_law_157 rfl (lv_at hl 3 rfl) ?_
        refine lv_iconst (v := 1) hx hb dL_law_158 (by decide) ?_
        refine lv_iadd hx hb dL_law_159 ?_
        refine va_sld hx hb hX hbl hbA hS (vp_in_iff.mpr ⟨by rw [hi1]; omega, by rw [hi1]; omega⟩) dL_law_160 ?_
        refine lv_aload_n hx hb dL_law_161 rfl (lv_at hl 0 rfl) ?_
        refine lv_iload_n hx hb dL_law_162 rfl (lv_at hl 3 rfl) ?_
        refine lv_iconst (v := 2) hx hb dL_law_163 (by decide) ?_
        refine lv_iadd hx hb dL_law_164 ?_
        refine va_sld hx hb hX hbl hbA hS (vp_in_iff.mpr ⟨by rw [hi2]; omega, by rw [hi2]; omega⟩) dL_law_165 ?_
        refine lv_aload_n hx hb dL_law_166 rfl (lv_at hl 0 rfl) ?_
        refine lv_iload_n hx hb dL_law_167 rfl (lv_at hl 3 rfl) ?_
        refine lv_iconst (v := 3) hx hb dL_law_168 (by decide) ?_
        refine lv_iadd hx hb dL_law_169 ?_
        refine va_sld hx hb hX hbl hbA hS (vp_in_iff.mpr ⟨by rw [hi3]; omega, by rw [hi3]; omega⟩) dL_law_170 ?_
        refine pm_i (va_runV (As := [.int (xs ((nI (4 * j)) + 1).toNatClampNeg), .int (xs ((nI (4 * j)) + 2).toNatClampNeg), .int (xs ((nI (4 * j)) + 3).toNatClampNeg)]) (rest := []) ⟨hx, hb, hml, hown, hts⟩ (c_X1_put l D cI cZ cT ρ x tq th O mt wh _ (xs ((nI (4 * j)) + 1).toNatClampNeg) (xs ((nI (4 * j)) + 2).toNatClampNeg) (xs ((nI (4 * j)) + 3).toNatClampNeg)) (cwV 3 hts gL_law_X1_put rfl rfl rfl (by decide +kernel) ⟨Nat.le_of_ble_eq_true rfl, Nat.le_of_ble_eq_true rfl⟩) (pre_v ⟨rfl, hp⟩ hKN (recv hKN hp.1 rfl)) rfl rfl hl.1 rfl (lv_room (Nat.le_of_ble_eq_true rfl)) dL_law_171 ⟨by show _ ≤ 600000; omega, by show _ ≤ 7302250; omega⟩) hS (fun q _ h9 => ho q h9) (fun q h9 => ho q h9) (fun r171 H locs hr171 hz hk hS => ?_)
        obtain ⟨er171, hp1⟩ := hr171
        have hq1 := my_after hq hd (fun q h1 h2 => hk q h1 (fun h3 => h3 h2))
        rw [er171]
        refine lv_aload_n hx hb dL_law_174 rfl (lv_at hl 2 rfl) ?_
        refine lv_aload_n hx hb dL_law_175 rfl (lv_at hl 0 rfl) ?_
        refine lv_iload_n hx hb dL_law_176 rfl (lv_at hl 3 rfl) ?_
        refine lv_iconst (v := 1) hx hb dL_law_177 (by decide) ?_
        refine lv_iadd hx hb dL_law_178 ?_
        refine va_sld hx hb hX hbl hbA hS (vp_in_iff.mpr ⟨by rw [hi1]; omega, by rw [hi1]; omega⟩) dL_law_179 ?_
        refine lv_aload_n hx hb dL_law_180 rfl (lv_at hl 0 rfl) ?_
        refine lv_iload_n hx hb dL_law_181 rfl (lv_at hl 3 rfl) ?_
        refine lv_iconst (v := 2) hx hb dL_law_182 (by decide) ?_
        refine lv_iadd hx hb dL_law_183 ?_
        refine va_sld hx hb hX hbl hbA hS (vp_in_iff.mpr ⟨by rw [hi2]; omega, by rw [hi2]; omega⟩) dL_law_184 ?_
        refine lv_aload_n hx hb dL_law_185 rfl (lv_at hl 0 rfl) ?_
        refine lv_iload_n hx hb dL_law_186 rfl (lv_at hl 3 rfl) ?_
        refine lv_iconst (v := 3) hx hb dL_law_187 (by decide) ?_
        refine lv_iadd hx hb dL_law_188 ?_
        refine va_sld hx hb hX hbl hbA hS (vp_in_iff.mpr ⟨by rw [hi3]; omega, by rw [hi3]; omega⟩) dL_law_189 ?_
        refine pm_i (va_runV (As := [.int (xs ((nI (4 * j)) + 1).toNatClampNeg), .int (xs ((nI (4 * j)) + 2).toNatClampNeg), .int (xs ((nI (4 * j)) + 3).toNatClampNeg)]) (rest := [.int ((pto O (xs ((nI (4 * j)) + 1).toNatClampNeg) (xs ((nI (4 * j)) + 2).toNatClampNeg) (xs ((nI (4 * j)) + 3).toNatClampNeg)).1)]) ⟨hx, hb, hml, hown, hts⟩ (c_X2_put l D cI cZ cT y a1 a2 a3 md sz fl O hrm mt wh _ (xs ((nI (4 * j)) + 1).toNatClampNeg) (xs ((nI (4 * j)) + 2).toNatClampNeg) (xs ((nI (4 * j)) + 3).toNatClampNeg)) (cwV 3 hts gL_law_X2_put rfl rfl rfl (by decide +kernel) ⟨Nat.le_of_ble_eq_true rfl, Nat.le_of_ble_eq_true rfl⟩) (pre_v ⟨rfl, hq1⟩ hKN (recv hKN hq1.1 rfl)) rfl rfl hl.1 rfl (lv_room (Nat.le_of_ble_eq_true rfl)) dL_law_190 ⟨by show _ ≤ 600000; omega, by show _ ≤ 7302250; omega⟩) hS (fun q _ h9 => by show s.heap.size ≤ q; rw [show q = a3 from h9]; exact hz2.2.2.2) (fun q h9 => by show s.heap.size ≤ q; rw [show q = a3 from h9]; exact hz2.2.2.2) (fun r190 H locs hr190 hz hk hS => ?_)
        obtain ⟨er190, fl2, hrm2, hq2⟩ := hr190
        have hp2 := px_after hp1 hd hz (fun q h1 h2 => hk q h1 (fun h3 => h2 (Or.inr (Or.inr (Or.inr h3)))))
        rw [er190]
        refine lv_icmp_eq (tgt := 448) hx hb dL_law_193 (by decide) (fun _ => ?_) (fun c9 => absurd rfl c9)
        refine lv_iinc (v := ((nI (4 * j)) + 4)) (lv' := [(3, .int ((nI (4 * j)) + 4)), (0, .ref b), (1, .ref x), (2, .ref y)]) hx hb dL_law_448 hl (k := 3) rfl rfl (by decide) rfl (fun ls hl => ?_)
        refine lv_goto (tgt := 18) hx hb dL_law_451 (by decide) ?_
        rw [hi4] at hl
        refine W.widen (k := 6 + 2 * (j + 1)) (n := 17251 + 42 * (j + 1)) (by omega) (by omega) ?_
        exact ih (j + 1) (by omega) (by omega) _ _ _ _ _ ⟨_, _, _, _, _, _, _, _, _, hp2, hq2, hrm2, hd, ho, hz2⟩ hS _ (lv_sub hl [1, 2, 3, 0] rfl)
      · refine lv_tableIn (off := 166) (tgt := 198) hx hb dL_law_32 (by rw [q]; decide) (by rw [q]; decide) (by rw [q]; decide) (by decide) ?_
        refine lv_aload_n hx hb dL_law_198 rfl (lv_at hl 1 rfl) ?_
        refine lv_aload_n hx hb dL_law_199 rfl (lv_at hl 0 rfl) ?_
        refine lv_iload_n hx hb dL_law_200 rfl (lv_at hl 3 rfl) ?_
        refine lv_iconst (v := 1) hx hb dL_law_201 (by decide) ?_
        refine lv_iadd hx hb dL_law_202 ?_
        refine va_sld hx hb hX hbl hbA hS (vp_in_iff.mpr ⟨by rw [hi1]; omega, by rw [hi1]; omega⟩) dL_law_203 ?_
        refine lv_aload_n hx hb dL_law_204 rfl (lv_at hl 0 rfl) ?_
        refine lv_iload_n hx hb dL_law_205 rfl (lv_at hl 3 rfl) ?_
        refine lv_iconst (v := 2) hx hb dL_law_206 (by decide) ?_
        refine lv_iadd hx hb dL_law_207 ?_
        refine va_sld hx hb hX hbl hbA hS (vp_in_iff.mpr ⟨by rw [hi2]; omega, by rw [hi2]; omega⟩) dL_law_208 ?_
        refine pq_i (va_runV (As := [.int (xs ((nI (4 * j)) + 1).toNatClampNeg), .int (xs ((nI (4 * j)) + 2).toNatClampNeg)]) (rest := []) ⟨hx, hb, hml, hown, hts⟩ (c_X1_get l D cI cZ cT ρ x tq th O mt wh _ (xs ((nI (4 * j)) + 1).toNatClampNeg) (xs ((nI (4 * j)) + 2).toNatClampNeg)) (cwV 2 hts gL_law_X1_get rfl rfl rfl (by decide +kernel) ⟨Nat.le_of_ble_eq_true rfl, Nat.le_of_ble_eq_true rfl⟩) (pre_v ⟨rfl, hp⟩ hKN (recv hKN hp.1 rfl)) rfl rfl hl.1 rfl (lv_room (Nat.le_of_ble_eq_true rfl)) dL_law_209 ⟨by show _ ≤ 600000; omega, by show _ ≤ 7302250; omega⟩) (fun r209 hr209 => ?_)
        rw [hr209]
        refine lv_aload_n hx hb dL_law_212 rfl (lv_at hl 2 rfl) ?_
        refine lv_aload_n hx hb dL_law_213 rfl (lv_at hl 0 rfl) ?_
        refine lv_iload_n hx hb dL_law_214 rfl (lv_at hl 3 rfl) ?_
        refine lv_iconst (v := 1) hx hb dL_law_215 (by decide) ?_
        refine lv_iadd hx hb dL_law_216 ?_
        refine va_sld hx hb hX hbl hbA hS (vp_in_iff.mpr ⟨by rw [hi1]; omega, by rw [hi1]; omega⟩) dL_law_217 ?_
        refine lv_aload_n hx hb dL_law_218 rfl (lv_at hl 0 rfl) ?_
        refine lv_iload_n hx hb dL_law_219 rfl (lv_at hl 3 rfl) ?_
        refine lv_iconst (v := 2) hx hb dL_law_220 (by decide) ?_
        refine lv_iadd hx hb dL_law_221 ?_
        refine va_sld hx hb hX hbl hbA hS (vp_in_iff.mpr ⟨by rw [hi2]; omega, by rw [hi2]; omega⟩) dL_law_222 ?_
        refine pq_i (va_runV (As := [.int (xs ((nI (4 * j)) + 1).toNatClampNeg), .int (xs ((nI (4 * j)) + 2).toNatClampNeg)]) (rest := [.int (gto O (xs ((nI (4 * j)) + 1).toNatClampNeg) (xs ((nI (4 * j)) + 2).toNatClampNeg))]) ⟨hx, hb, hml, hown, hts⟩ (c_X2_get l D cI cZ cT y a1 a2 a3 md sz fl O hrm mt wh _ (xs ((nI (4 * j)) + 1).toNatClampNeg) (xs ((nI (4 * j)) + 2).toNatClampNeg)) (cwV 2 hts gL_law_X2_get rfl rfl rfl (by decide +kernel) ⟨Nat.le_of_ble_eq_true rfl, Nat.le_of_ble_eq_true rfl⟩) (pre_v ⟨rfl, hq⟩ hKN (recv hKN hq.1 rfl)) rfl rfl hl.1 rfl (lv_room (Nat.le_of_ble_eq_true rfl)) dL_law_223 ⟨by show _ ≤ 600000; omega, by show _ ≤ 7302250; omega⟩) (fun r223 hr223 => ?_)
        rw [hr223]
        refine lv_icmp_eq (tgt := 448) hx hb dL_law_226 (by decide) (fun _ => ?_) (fun c9 => absurd rfl c9)
        refine lv_iinc (v := ((nI (4 * j)) + 4)) (lv' := [(3, .int ((nI (4 * j)) + 4)), (0, .ref b), (1, .ref x), (2, .ref y)]) hx hb dL_law_448 hl (k := 3) rfl rfl (by decide) rfl (fun ls hl => ?_)
        refine lv_goto (tgt := 18) hx hb dL_law_451 (by decide) ?_
        rw [hi4] at hl
        refine W.widen (k := 6 + 2 * (j + 1)) (n := 17251 + 42 * (j + 1)) (by omega) (by omega) ?_
        exact ih (j + 1) (by omega) (by omega) _ _ _ _ _ ⟨_, _, _, _, _, _, _, _, _, hp, hq, hrm, hd, ho, hz2⟩ hS _ (lv_sub hl [1, 2, 3, 0] rfl)
      · refine lv_tableIn (off := 199) (tgt := 231) hx hb dL_law_32 (by rw [q]; decide) (by rw [q]; decide) (by rw [q]; decide) (by decide) ?_
        refine lv_aload_n hx hb dL_law_231 rfl (lv_at hl 1 rfl) ?_
        refine lv_aload_n hx hb dL_law_232 rfl (lv_at hl 0 rfl) ?_
        refine lv_iload_n hx hb dL_law_233 rfl (lv_at hl 3 rfl) ?_
        refine lv_iconst (v := 1) hx hb dL_law_234 (by decide) ?_
        refine lv_iadd hx hb dL_law_235 ?_
        refine va_sld hx hb hX hbl hbA hS (vp_in_iff.mpr ⟨by rw [hi1]; omega, by rw [hi1]; omega⟩) dL_law_236 ?_
        refine pq_i (va_runV (As := [.int (xs ((nI (4 * j)) + 1).toNatClampNeg)]) (rest := []) ⟨hx, hb, hml, hown, hts⟩ (c_X1_size l D cI cZ cT ρ x tq th O mt wh _ (xs ((nI (4 * j)) + 1).toNatClampNeg)) (cwV 1 hts gL_law_X1_size rfl rfl rfl (by decide +kernel) ⟨Nat.le_of_ble_eq_true rfl, Nat.le_of_ble_eq_true rfl⟩) (pre_v ⟨rfl, hp⟩ hKN (recv hKN hp.1 rfl)) rfl rfl hl.1 rfl (lv_room (Nat.le_of_ble_eq_true rfl)) dL_law_237 ⟨by show _ ≤ 600000; omega, by show _ ≤ 7302250; omega⟩) (fun r237 hr237 => ?_)
        rw [hr237]
        refine lv_aload_n hx hb dL_law_240 rfl (lv_at hl 2 rfl) ?_
        refine lv_aload_n hx hb dL_law_241 rfl (lv_at hl 0 rfl) ?_
        refine lv_iload_n hx hb dL_law_242 rfl (lv_at hl 3 rfl) ?_
        refine lv_iconst (v := 1) hx hb dL_law_243 (by decide) ?_
        refine lv_iadd hx hb dL_law_244 ?_
        refine va_sld hx hb hX hbl hbA hS (vp_in_iff.mpr ⟨by rw [hi1]; omega, by rw [hi1]; omega⟩) dL_law_245 ?_
        refine pq_i (va_runV (As := [.int (xs ((nI (4 * j)) + 1).toNatClampNeg)]) (rest := [.int (szo O (xs ((nI (4 * j)) + 1).toNatClampNeg))]) ⟨hx, hb, hml, hown, hts⟩ (c_X2_size l D cI cZ cT y a1 a2 a3 md sz fl O hrm mt wh _ (xs ((nI (4 * j)) + 1).toNatClampNeg)) (cwV 1 hts gL_law_X2_size rfl rfl rfl (by decide +kernel) ⟨Nat.le_of_ble_eq_true rfl, Nat.le_of_ble_eq_true rfl⟩) (pre_v ⟨rfl, hq⟩ hKN (recv hKN hq.1 rfl)) rfl rfl hl.1 rfl (lv_room (Nat.le_of_ble_eq_true rfl)) dL_law_246 ⟨by show _ ≤ 600000; omega, by show _ ≤ 7302250; omega⟩) (fun r246 hr246 => ?_)
        rw [hr246]
        refine lv_icmp_eq (tgt := 448) hx hb dL_law_249 (by decide) (fun _ => ?_) (fun c9 => absurd rfl c9)
        refine lv_iinc (v := ((nI (4 * j)) + 4)) (lv' := [(3, .int ((nI (4 * j)) + 4)), (0, .ref b), (1, .ref x), (2, .ref y)]) hx hb dL_law_448 hl (k := 3) rfl rfl (by decide) rfl (fun ls hl => ?_)
        refine lv_goto (tgt := 18) hx hb dL_law_451 (by decide) ?_
        rw [hi4] at hl
        refine W.widen (k := 6 + 2 * (j + 1)) (n := 17251 + 42 * (j + 1)) (by omega) (by omega) ?_
        exact ih (j + 1) (by omega) (by omega) _ _ _ _ _ ⟨_, _, _, _, _, _, _, _, _, hp, hq, hrm, hd, ho, hz2⟩ hS _ (lv_sub hl [1, 2, 3, 0] rfl)
      · refine lv_tableIn (off := 222) (tgt := 254) hx hb dL_law_32 (by rw [q]; decide) (by rw [q]; decide) (by rw [q]; decide) (by decide) ?_
        refine lv_aload_n hx hb dL_law_254 rfl (lv_at hl 1 rfl) ?_
        refine lv_aload_n hx hb dL_law_255 rfl (lv_at hl 0 rfl) ?_
        refine lv_iload_n hx hb dL_law_256 rfl (lv_at hl 3 rfl) ?_
        refine lv_iconst (v := 1) hx hb dL_law_257 (by decide) ?_
        refine lv_iadd hx hb dL_law_258 ?_
        refine va_sld hx hb hX hbl hbA hS (vp_in_iff.mpr ⟨by rw [hi1]; omega, by rw [hi1]; omega⟩) dL_law_259 ?_
        refine lv_aload_n hx hb dL_law_260 rfl (lv_at hl 0 rfl) ?_
        refine lv_iload_n hx hb dL_law_261 rfl (lv_at hl 3 rfl) ?_
        refine lv_iconst (v := 2) hx hb dL_law_262 (by decide) ?_
        refine lv_iadd hx hb dL_law_263 ?_
        refine va_sld hx hb hX hbl hbA hS (vp_in_iff.mpr ⟨by rw [hi2]; omega, by rw [hi2]; omega⟩) dL_law_264 ?_
        refine pm_i (va_runV (As := [.int (xs ((nI (4 * j)) + 1).toNatClampNeg), .int (xs ((nI (4 * j)) + 2).toNatClampNeg)]) (rest := []) ⟨hx, hb, hml, hown, hts⟩ (c_X1_lookUp l D cI cZ cT ρ x tq th O mt wh _ (xs ((nI (4 * j)) + 1).toNatClampNeg) (xs ((nI (4 * j)) + 2).toNatClampNeg)) (cwV 2 hts gL_law_X1_lookUp rfl rfl rfl (by decide +kernel) ⟨Nat.le_of_ble_eq_true rfl, Nat.le_of_ble_eq_true rfl⟩) (pre_v ⟨rfl, hp⟩ hKN (recv hKN hp.1 rfl)) rfl rfl hl.1 rfl (lv_room (Nat.le_of_ble_eq_true rfl)) dL_law_265 ⟨by show _ ≤ 600000; omega, by show _ ≤ 7302250; omega⟩) hS (fun q _ h9 => by show s.heap.size ≤ q; rw [show q = x from h9]; exact ho x (by rw [hp.2.2.1]; decide)) (fun q h9 => by show s.heap.size ≤ q; rw [show q = x from h9]; exact ho x (by rw [hp.2.2.1]; decide)) (fun r265 H locs hr265 hz hk hS => ?_)
        obtain ⟨er265, hp1⟩ := hr265
        have hq1 := my_after hq hd (fun q h1 h2 => hk q h1 (fun h3 => by rw [show q = x from h3, hp.2.2.1] at h2; exact absurd h2 (by decide)))
        rw [er265]
        refine lv_aload_n hx hb dL_law_268 rfl (lv_at hl 2 rfl) ?_
        refine lv_aload_n hx hb dL_law_269 rfl (lv_at hl 0 rfl) ?_
        refine lv_iload_n hx hb dL_law_270 rfl (lv_at hl 3 rfl) ?_
        refine lv_iconst (v := 1) hx hb dL_law_271 (by decide) ?_
        refine lv_iadd hx hb dL_law_272 ?_
        refine va_sld hx hb hX hbl hbA hS (vp_in_iff.mpr ⟨by rw [hi1]; omega, by rw [hi1]; omega⟩) dL_law_273 ?_
        refine lv_aload_n hx hb dL_law_274 rfl (lv_at hl 0 rfl) ?_
        refine lv_iload_n hx hb dL_law_275 rfl (lv_at hl 3 rfl) ?_
        refine lv_iconst (v := 2) hx hb dL_law_276 (by decide) ?_
        refine lv_iadd hx hb dL_law_277 ?_
        refine va_sld hx hb hX hbl hbA hS (vp_in_iff.mpr ⟨by rw [hi2]; omega, by rw [hi2]; omega⟩) dL_law_278 ?_
        refine pm_i (va_runV (As := [.int (xs ((nI (4 * j)) + 1).toNatClampNeg), .int (xs ((nI (4 * j)) + 2).toNatClampNeg)]) (rest := [.int ((lk O (xs ((nI (4 * j)) + 1).toNatClampNeg) (xs ((nI (4 * j)) + 2).toNatClampNeg)).1)]) ⟨hx, hb, hml, hown, hts⟩ (c_X2_lookUp l D cI cZ cT y a1 a2 a3 md sz fl O hrm mt wh _ (xs ((nI (4 * j)) + 1).toNatClampNeg) (xs ((nI (4 * j)) + 2).toNatClampNeg)) (cwV 2 hts gL_law_X2_lookUp rfl rfl rfl (by decide +kernel) ⟨Nat.le_of_ble_eq_true rfl, Nat.le_of_ble_eq_true rfl⟩) (pre_v ⟨rfl, hq1⟩ hKN (recv hKN hq1.1 rfl)) rfl rfl hl.1 rfl (lv_room (Nat.le_of_ble_eq_true rfl)) dL_law_279 ⟨by show _ ≤ 600000; omega, by show _ ≤ 7302250; omega⟩) hS (fun q _ h9 => by show s.heap.size ≤ q; rw [show q = y from h9]; exact hz2.1) (fun q h9 => by show s.heap.size ≤ q; rw [show q = y from h9]; exact hz2.1) (fun r279 H locs hr279 hz hk hS => ?_)
        obtain ⟨er279, hq2⟩ := hr279
        have hp2 := px_after hp1 hd hz (fun q h1 h2 => hk q h1 (fun h3 => h2 (Or.inl h3)))
        rw [er279]
        refine lv_icmp_eq (tgt := 448) hx hb dL_law_282 (by decide) (fun _ => ?_) (fun c9 => absurd rfl c9)
        refine lv_iinc (v := ((nI (4 * j)) + 4)) (lv' := [(3, .int ((nI (4 * j)) + 4)), (0, .ref b), (1, .ref x), (2, .ref y)]) hx hb dL_law_448 hl (k := 3) rfl rfl (by decide) rfl (fun ls hl => ?_)
        refine lv_goto (tgt := 18) hx hb dL_law_451 (by decide) ?_
        rw [hi4] at hl
        refine W.widen (k := 6 + 2 * (j + 1)) (n := 17251 + 42 * (j + 1)) (by omega) (by omega) ?_
        exact ih (j + 1) (by omega) (by omega) _ _ _ _ _ ⟨_, _, _, _, _, _, _, _, _, hp2, hq2, hrm, hd, ho, hz2⟩ hS _ (lv_sub hl [1, 2, 3, 0] rfl)
      · refine lv_tableIn (off := 255) (tgt := 287) hx hb dL_law_32 (by rw [q]; decide) (by rw [q]; decide) (by rw [q]; decide) (by decide) ?_
        refine lv_aload_n hx hb dL_law_287 rfl (lv_at hl 1 rfl) ?_
        refine pq_i (va_runV (As := []) (rest := []) ⟨hx, hb, hml, hown, hts⟩ (c_X1_method l D cI cZ cT ρ x tq th O mt wh _) (cwV 0 hts gL_law_X1_method rfl rfl rfl (by decide +kernel) ⟨Nat.le_of_ble_eq_true rfl, Nat.le_of_ble_eq_true rfl⟩) (pre_v ⟨rfl, hp⟩ hKN (recv hKN hp.1 rfl)) rfl rfl hl.1 rfl (lv_room (Nat.le_of_ble_eq_true rfl)) dL_law_288 ⟨by show _ ≤ 600000; omega, by show _ ≤ 7302250; omega⟩) (fun r288 hr288 => ?_)
        rw [hr288]
        refine lv_aload_n hx hb dL_law_291 rfl (lv_at hl 2 rfl) ?_
        refine pq_i (va_runV (As := []) (rest := [.int (mt)]) ⟨hx, hb, hml, hown, hts⟩ (c_X2_method l D cI cZ cT y a1 a2 a3 md sz fl O hrm mt wh _) (cwV 0 hts gL_law_X2_method rfl rfl rfl (by decide +kernel) ⟨Nat.le_of_ble_eq_true rfl, Nat.le_of_ble_eq_true rfl⟩) (pre_v ⟨rfl, hq⟩ hKN (recv hKN hq.1 rfl)) rfl rfl hl.1 rfl (lv_room (Nat.le_of_ble_eq_true rfl)) dL_law_292 ⟨by show _ ≤ 600000; omega, by show _ ≤ 7302250; omega⟩) (fun r292 hr292 => ?_)
        rw [hr292]
        refine lv_icmp_eq (tgt := 448) hx hb dL_law_295 (by decide) (fun _ => ?_) (fun c9 => absurd rfl c9)
        refine lv_iinc (v := ((nI (4 * j)) + 4)) (lv' := [(3, .int ((nI (4 * j)) + 4)), (0, .ref b), (1, .ref x), (2, .ref y)]) hx hb dL_law_448 hl (k := 3) rfl rfl (by decide) rfl (fun ls hl => ?_)
        refine lv_goto (tgt := 18) hx hb dL_law_451 (by decide) ?_
        rw [hi4] at hl
        refine W.widen (k := 6 + 2 * (j + 1)) (n := 17251 + 42 * (j + 1)) (by omega) (by omega) ?_
        exact ih (j + 1) (by omega) (by omega) _ _ _ _ _ ⟨_, _, _, _, _, _, _, _, _, hp, hq, hrm, hd, ho, hz2⟩ hS _ (lv_sub hl [1, 2, 3, 0] rfl)
      · refine lv_tableIn (off := 268) (tgt := 300) hx hb dL_law_32 (by rw [q]; decide) (by rw [q]; decide) (by rw [q]; decide) (by decide) ?_
        refine lv_aload_n hx hb dL_law_300 rfl (lv_at hl 1 rfl) ?_
        refine pq_i (va_runV (As := []) (rest := []) ⟨hx, hb, hml, hown, hts⟩ (c_X1_where l D cI cZ cT ρ x tq th O mt wh _) (cwV 0 hts gL_law_X1_where rfl rfl rfl (by decide +kernel) ⟨Nat.le_of_ble_eq_true rfl, Nat.le_of_ble_eq_true rfl⟩) (pre_v ⟨rfl, hp⟩ hKN (recv hKN hp.1 rfl)) rfl rfl hl.1 rfl (lv_room (Nat.le_of_ble_eq_true rfl)) dL_law_301 ⟨by show _ ≤ 600000; omega, by show _ ≤ 7302250; omega⟩) (fun r301 hr301 => ?_)
        rw [hr301]
        refine lv_aload_n hx hb dL_law_304 rfl (lv_at hl 2 rfl) ?_
        refine pq_i (va_runV (As := []) (rest := [.int (wh)]) ⟨hx, hb, hml, hown, hts⟩ (c_X2_where l D cI cZ cT y a1 a2 a3 md sz fl O hrm mt wh _) (cwV 0 hts gL_law_X2_where rfl rfl rfl (by decide +kernel) ⟨Nat.le_of_ble_eq_true rfl, Nat.le_of_ble_eq_true rfl⟩) (pre_v ⟨rfl, hq⟩ hKN (recv hKN hq.1 rfl)) rfl rfl hl.1 rfl (lv_room (Nat.le_of_ble_eq_true rfl)) dL_law_305 ⟨by show _ ≤ 600000; omega, by show _ ≤ 7302250; omega⟩) (fun r305 hr305 => ?_)
        rw [hr305]
        refine lv_icmp_eq (tgt := 448) hx hb dL_law_308 (by decide) (fun _ => ?_) (fun c9 => absurd rfl c9)
        refine lv_iinc (v := ((nI (4 * j)) + 4)) (lv' := [(3, .int ((nI (4 * j)) + 4)), (0, .ref b), (1, .ref x), (2, .ref y)]) hx hb dL_law_448 hl (k := 3) rfl rfl (by decide) rfl (fun ls hl => ?_)
        refine lv_goto (tgt := 18) hx hb dL_law_451 (by decide) ?_
        rw [hi4] at hl
        refine W.widen (k := 6 + 2 * (j + 1)) (n := 17251 + 42 * (j + 1)) (by omega) (by omega) ?_
        exact ih (j + 1) (by omega) (by omega) _ _ _ _ _ ⟨_, _, _, _, _, _, _, _, _, hp, hq, hrm, hd, ho, hz2⟩ hS _ (lv_sub hl [1, 2, 3, 0] rfl)
      · refine lv_tableIn (off := 281) (tgt := 313) hx hb dL_law_32 (by rw [q]; decide) (by rw [q]; decide) (by rw [q]; decide) (by decide) ?_
        refine lv_aload_n hx hb dL_law_313 rfl (lv_at hl 1 rfl) ?_
        refine lv_aload_n hx hb dL_law_314 rfl (lv_at hl 0 rfl) ?_
        refine lv_iload_n hx hb dL_law_315 rfl (lv_at hl 3 rfl) ?_
        refine lv_iconst (v := 1) hx hb dL_law_316 (by decide) ?_
        refine lv_iadd hx hb dL_law_317 ?_
        refine va_sld hx hb hX hbl hbA hS (vp_in_iff.mpr ⟨by rw [hi1]; omega, by rw [hi1]; omega⟩) dL_law_318 ?_
        refine pm_i (va_runV (As := [.int (xs ((nI (4 * j)) + 1).toNatClampNeg)]) (rest := []) ⟨hx, hb, hml, hown, hts⟩ (c_X1_above l D cI cZ cT ρ x tq th O mt wh _ (xs ((nI (4 * j)) + 1).toNatClampNeg)) (cwV 1 hts gL_law_X1_above rfl rfl rfl (by decide +kernel) ⟨Nat.le_of_ble_eq_true rfl, Nat.le_of_ble_eq_true rfl⟩) (pre_v ⟨rfl, hp⟩ hKN (recv hKN hp.1 rfl)) rfl rfl hl.1 rfl (lv_room (Nat.le_of_ble_eq_true rfl)) dL_law_319 ⟨by show _ ≤ 600000; omega, by show _ ≤ 7302250; omega⟩) hS (fun q _ h9 => by show s.heap.size ≤ q; rw [show q = x from h9]; exact ho x (by rw [hp.2.2.1]; decide)) (fun q h9 => by show s.heap.size ≤ q; rw [show q = x from h9]; exact ho x (by rw [hp.2.2.1]; decide)) (fun r319 H locs hr319 hz hk hS => ?_)
        obtain ⟨er319, hp1⟩ := hr319
        have hq1 := my_after hq hd (fun q h1 h2 => hk q h1 (fun h3 => by rw [show q = x from h3, hp.2.2.1] at h2; exact absurd h2 (by decide)))
        rw [er319]
        refine lv_aload_n hx hb dL_law_322 rfl (lv_at hl 2 rfl) ?_
        refine lv_aload_n hx hb dL_law_323 rfl (lv_at hl 0 rfl) ?_
        refine lv_iload_n hx hb dL_law_324 rfl (lv_at hl 3 rfl) ?_
        refine lv_iconst (v := 1) hx hb dL_law_325 (by decide) ?_
        refine lv_iadd hx hb dL_law_326 ?_
        refine va_sld hx hb hX hbl hbA hS (vp_in_iff.mpr ⟨by rw [hi1]; omega, by rw [hi1]; omega⟩) dL_law_327 ?_
        refine pm_i (va_runV (As := [.int (xs ((nI (4 * j)) + 1).toNatClampNeg)]) (rest := [.int ((abv O mt wh (xs ((nI (4 * j)) + 1).toNatClampNeg)).1)]) ⟨hx, hb, hml, hown, hts⟩ (c_X2_above l D cI cZ cT y a1 a2 a3 md sz fl O hrm mt wh _ (xs ((nI (4 * j)) + 1).toNatClampNeg)) (cwV 1 hts gL_law_X2_above rfl rfl rfl (by decide +kernel) ⟨Nat.le_of_ble_eq_true rfl, Nat.le_of_ble_eq_true rfl⟩) (pre_v ⟨rfl, hq1⟩ hKN (recv hKN hq1.1 rfl)) rfl rfl hl.1 rfl (lv_room (Nat.le_of_ble_eq_true rfl)) dL_law_328 ⟨by show _ ≤ 600000; omega, by show _ ≤ 7302250; omega⟩) hS (fun q _ h9 => by show s.heap.size ≤ q; rw [show q = y from h9]; exact hz2.1) (fun q h9 => by show s.heap.size ≤ q; rw [show q = y from h9]; exact hz2.1) (fun r328 H locs hr328 hz hk hS => ?_)
        obtain ⟨er328, hq2⟩ := hr328
        have hp2 := px_after hp1 hd hz (fun q h1 h2 => hk q h1 (fun h3 => h2 (Or.inl h3)))
        rw [er328]
        refine lv_icmp_eq (tgt := 448) hx hb dL_law_331 (by decide) (fun _ => ?_) (fun c9 => absurd rfl c9)
        refine lv_iinc (v := ((nI (4 * j)) + 4)) (lv' := [(3, .int ((nI (4 * j)) + 4)), (0, .ref b), (1, .ref x), (2, .ref y)]) hx hb dL_law_448 hl (k := 3) rfl rfl (by decide) rfl (fun ls hl => ?_)
        refine lv_goto (tgt := 18) hx hb dL_law_451 (by decide) ?_
        rw [hi4] at hl
        refine W.widen (k := 6 + 2 * (j + 1)) (n := 17251 + 42 * (j + 1)) (by omega) (by omega) ?_
        exact ih (j + 1) (by omega) (by omega) _ _ _ _ _ ⟨_, _, _, _, _, _, _, _, _, hp2, hq2, hrm, hd, ho, hz2⟩ hS _ (lv_sub hl [1, 2, 3, 0] rfl)
      · refine lv_tableIn (off := 304) (tgt := 336) hx hb dL_law_32 (by rw [q]; decide) (by rw [q]; decide) (by rw [q]; decide) (by decide) ?_
        refine lv_aload_n hx hb dL_law_336 rfl (lv_at hl 1 rfl) ?_
        refine lv_aload_n hx hb dL_law_337 rfl (lv_at hl 0 rfl) ?_
        refine lv_iload_n hx hb dL_law_338 rfl (lv_at hl 3 rfl) ?_
        refine lv_iconst (v := 1) hx hb dL_law_339 (by decide) ?_
        refine lv_iadd hx hb dL_law_340 ?_
        refine va_sld hx hb hX hbl hbA hS (vp_in_iff.mpr ⟨by rw [hi1]; omega, by rw [hi1]; omega⟩) dL_law_341 ?_
        refine lv_aload_n hx hb dL_law_342 rfl (lv_at hl 0 rfl) ?_
        refine lv_iload_n hx hb dL_law_343 rfl (lv_at hl 3 rfl) ?_
        refine lv_iconst (v := 2) hx hb dL_law_344 (by decide) ?_
        refine lv_iadd hx hb dL_law_345 ?_
        refine va_sld hx hb hX hbl hbA hS (vp_in_iff.mpr ⟨by rw [hi2]; omega, by rw [hi2]; omega⟩) dL_law_346 ?_
        refine pq_i (va_runV (As := [.int (xs ((nI (4 * j)) + 1).toNatClampNeg), .int (xs ((nI (4 * j)) + 2).toNatClampNeg)]) (rest := []) ⟨hx, hb, hml, hown, hts⟩ (c_X1_inherits l D cI cZ cT ρ x tq th O mt wh _ (xs ((nI (4 * j)) + 1).toNatClampNeg) (xs ((nI (4 * j)) + 2).toNatClampNeg)) (cwV 2 hts gL_law_X1_inherits rfl rfl rfl (by decide +kernel) ⟨Nat.le_of_ble_eq_true rfl, Nat.le_of_ble_eq_true rfl⟩) (pre_v ⟨rfl, hp⟩ hKN (recv hKN hp.1 rfl)) rfl rfl hl.1 rfl (lv_room (Nat.le_of_ble_eq_true rfl)) dL_law_347 ⟨by show _ ≤ 600000; omega, by show _ ≤ 7302250; omega⟩) (fun r347 hr347 => ?_)
        rw [hr347]
        refine lv_aload_n hx hb dL_law_350 rfl (lv_at hl 2 rfl) ?_
        refine lv_aload_n hx hb dL_law_351 rfl (lv_at hl 0 rfl) ?_
        refine lv_iload_n hx hb dL_law_352 rfl (lv_at hl 3 rfl) ?_
        refine lv_iconst (v := 1) hx hb dL_law_353 (by decide) ?_
        refine lv_iadd hx hb dL_law_354 ?_
        refine va_sld hx hb hX hbl hbA hS (vp_in_iff.mpr ⟨by rw [hi1]; omega, by rw [hi1]; omega⟩) dL_law_355 ?_
        refine lv_aload_n hx hb dL_law_356 rfl (lv_at hl 0 rfl) ?_
        refine lv_iload_n hx hb dL_law_357 rfl (lv_at hl 3 rfl) ?_
        refine lv_iconst (v := 2) hx hb dL_law_358 (by decide) ?_
        refine lv_iadd hx hb dL_law_359 ?_
        refine va_sld hx hb hX hbl hbA hS (vp_in_iff.mpr ⟨by rw [hi2]; omega, by rw [hi2]; omega⟩) dL_law_360 ?_
        refine pq_i (va_runV (As := [.int (xs ((nI (4 * j)) + 1).toNatClampNeg), .int (xs ((nI (4 * j)) + 2).toNatClampNeg)]) (rest := [.int (b2i (inhs O (xs ((nI (4 * j)) + 1).toNatClampNeg) (xs ((nI (4 * j)) + 2).toNatClampNeg)))]) ⟨hx, hb, hml, hown, hts⟩ (c_X2_inherits l D cI cZ cT y a1 a2 a3 md sz fl O hrm mt wh _ (xs ((nI (4 * j)) + 1).toNatClampNeg) (xs ((nI (4 * j)) + 2).toNatClampNeg)) (cwV 2 hts gL_law_X2_inherits rfl rfl rfl (by decide +kernel) ⟨Nat.le_of_ble_eq_true rfl, Nat.le_of_ble_eq_true rfl⟩) (pre_v ⟨rfl, hq⟩ hKN (recv hKN hq.1 rfl)) rfl rfl hl.1 rfl (lv_room (Nat.le_of_ble_eq_true rfl)) dL_law_361 ⟨by show _ ≤ 600000; omega, by show _ ≤ 7302250; omega⟩) (fun r361 hr361 => ?_)
        rw [hr361]
        refine lv_icmp_eq (tgt := 448) hx hb dL_law_364 (by decide) (fun _ => ?_) (fun c9 => absurd rfl c9)
        refine lv_iinc (v := ((nI (4 * j)) + 4)) (lv' := [(3, .int ((nI (4 * j)) + 4)), (0, .ref b), (1, .ref x), (2, .ref y)]) hx hb dL_law_448 hl (k := 3) rfl rfl (by decide) rfl (fun ls hl => ?_)
        refine lv_goto (tgt := 18) hx hb dL_law_451 (by decide) ?_
        rw [hi4] at hl
        refine W.widen (k := 6 + 2 * (j + 1)) (n := 17251 + 42 * (j + 1)) (by omega) (by omega) ?_
        exact ih (j + 1) (by omega) (by omega) _ _ _ _ _ ⟨_, _, _, _, _, _, _, _, _, hp, hq, hrm, hd, ho, hz2⟩ hS _ (lv_sub hl [1, 2, 3, 0] rfl)
      · refine lv_tableIn (off := 337) (tgt := 369) hx hb dL_law_32 (by rw [q]; decide) (by rw [q]; decide) (by rw [q]; decide) (by decide) ?_
        refine lv_aload_n hx hb dL_law_369 rfl (lv_at hl 1 rfl) ?_
        refine lv_aload_n hx hb dL_law_370 rfl (lv_at hl 0 rfl) ?_
        refine lv_iload_n hx hb dL_law_371 rfl (lv_at hl 3 rfl) ?_
        refine lv_iconst (v := 1) hx hb dL_law_372 (by decide) ?_
        refine lv_iadd hx hb dL_law_373 ?_
        refine va_sld hx hb hX hbl hbA hS (vp_in_iff.mpr ⟨by rw [hi1]; omega, by rw [hi1]; omega⟩) dL_law_374 ?_
        refine lv_aload_n hx hb dL_law_375 rfl (lv_at hl 0 rfl) ?_
        refine lv_iload_n hx hb dL_law_376 rfl (lv_at hl 3 rfl) ?_
        refine lv_iconst (v := 2) hx hb dL_law_377 (by decide) ?_
        refine lv_iadd hx hb dL_law_378 ?_
        refine va_sld hx hb hX hbl hbA hS (vp_in_iff.mpr ⟨by rw [hi2]; omega, by rw [hi2]; omega⟩) dL_law_379 ?_
        refine pm_i (va_runV (As := [.int (xs ((nI (4 * j)) + 1).toNatClampNeg), .int (xs ((nI (4 * j)) + 2).toNatClampNeg)]) (rest := []) ⟨hx, hb, hml, hown, hts⟩ (c_X1_become l D cI cZ cT ρ x tq th O mt wh _ (xs ((nI (4 * j)) + 1).toNatClampNeg) (xs ((nI (4 * j)) + 2).toNatClampNeg)) (cwV 2 hts gL_law_X1_become rfl rfl rfl (by decide +kernel) ⟨Nat.le_of_ble_eq_true rfl, Nat.le_of_ble_eq_true rfl⟩) (pre_v ⟨rfl, hp⟩ hKN (recv hKN hp.1 rfl)) rfl rfl hl.1 rfl (lv_room (Nat.le_of_ble_eq_true rfl)) dL_law_380 ⟨by show _ ≤ 600000; omega, by show _ ≤ 7302250; omega⟩) hS (fun q _ h9 => ho q h9) (fun q h9 => ho q h9) (fun r380 H locs hr380 hz hk hS => ?_)
        obtain ⟨er380, hp1⟩ := hr380
        have hq1 := my_after hq hd (fun q h1 h2 => hk q h1 (fun h3 => h3 h2))
        rw [er380]
        refine lv_aload_n hx hb dL_law_383 rfl (lv_at hl 2 rfl) ?_
        refine lv_aload_n hx hb dL_law_384 rfl (lv_at hl 0 rfl) ?_
        refine lv_iload_n hx hb dL_law_385 rfl (lv_at hl 3 rfl) ?_
        refine lv_iconst (v := 1) hx hb dL_law_386 (by decide) ?_
        refine lv_iadd hx hb dL_law_387 ?_
        refine va_sld hx hb hX hbl hbA hS (vp_in_iff.mpr ⟨by rw [hi1]; omega, by rw [hi1]; omega⟩) dL_law_388 ?_
        refine lv_aload_n hx hb dL_law_389 rfl (lv_at hl 0 rfl) ?_
        refine lv_iload_n hx hb dL_law_390 rfl (lv_at hl 3 rfl) ?_
        refine lv_iconst (v := 2) hx hb dL_law_391 (by decide) ?_
        refine lv_iadd hx hb dL_law_392 ?_
        refine va_sld hx hb hX hbl hbA hS (vp_in_iff.mpr ⟨by rw [hi2]; omega, by rw [hi2]; omega⟩) dL_law_393 ?_
        refine pm_i (va_runV (As := [.int (xs ((nI (4 * j)) + 1).toNatClampNeg), .int (xs ((nI (4 * j)) + 2).toNatClampNeg)]) (rest := [.int ((bec O (xs ((nI (4 * j)) + 1).toNatClampNeg) (xs ((nI (4 * j)) + 2).toNatClampNeg)).1)]) ⟨hx, hb, hml, hown, hts⟩ (c_X2_become l D cI cZ cT y a1 a2 a3 md sz fl O hrm mt wh _ (xs ((nI (4 * j)) + 1).toNatClampNeg) (xs ((nI (4 * j)) + 2).toNatClampNeg)) (cwV 2 hts gL_law_X2_become rfl rfl rfl (by decide +kernel) ⟨Nat.le_of_ble_eq_true rfl, Nat.le_of_ble_eq_true rfl⟩) (pre_v ⟨rfl, hq1⟩ hKN (recv hKN hq1.1 rfl)) rfl rfl hl.1 rfl (lv_room (Nat.le_of_ble_eq_true rfl)) dL_law_394 ⟨by show _ ≤ 600000; omega, by show _ ≤ 7302250; omega⟩) hS (fun q _ h9 => by show s.heap.size ≤ q; rw [show q = a3 from h9]; exact hz2.2.2.2) (fun q h9 => by show s.heap.size ≤ q; rw [show q = a3 from h9]; exact hz2.2.2.2) (fun r394 H locs hr394 hz hk hS => ?_)
        obtain ⟨er394, fl2, hrm2, hq2⟩ := hr394
        have hp2 := px_after hp1 hd hz (fun q h1 h2 => hk q h1 (fun h3 => h2 (Or.inr (Or.inr (Or.inr h3)))))
        rw [er394]
        refine lv_icmp_eq (tgt := 448) hx hb dL_law_397 (by decide) (fun _ => ?_) (fun c9 => absurd rfl c9)
        refine lv_iinc (v := ((nI (4 * j)) + 4)) (lv' := [(3, .int ((nI (4 * j)) + 4)), (0, .ref b), (1, .ref x), (2, .ref y)]) hx hb dL_law_448 hl (k := 3) rfl rfl (by decide) rfl (fun ls hl => ?_)
        refine lv_goto (tgt := 18) hx hb dL_law_451 (by decide) ?_
        rw [hi4] at hl
        refine W.widen (k := 6 + 2 * (j + 1)) (n := 17251 + 42 * (j + 1)) (by omega) (by omega) ?_
        exact ih (j + 1) (by omega) (by omega) _ _ _ _ _ ⟨_, _, _, _, _, _, _, _, _, hp2, hq2, hrm2, hd, ho, hz2⟩ hS _ (lv_sub hl [1, 2, 3, 0] rfl)
      · refine lv_tableIn (off := 370) (tgt := 402) hx hb dL_law_32 (by rw [q]; decide) (by rw [q]; decide) (by rw [q]; decide) (by decide) ?_
        refine lv_aload_n hx hb dL_law_402 rfl (lv_at hl 1 rfl) ?_
        refine lv_aload_n hx hb dL_law_403 rfl (lv_at hl 0 rfl) ?_
        refine lv_iload_n hx hb dL_law_404 rfl (lv_at hl 3 rfl) ?_
        refine lv_iconst (v := 1) hx hb dL_law_405 (by decide) ?_
        refine lv_iadd hx hb dL_law_406 ?_
        refine va_sld hx hb hX hbl hbA hS (vp_in_iff.mpr ⟨by rw [hi1]; omega, by rw [hi1]; omega⟩) dL_law_407 ?_
        refine pq_i (va_runV (As := [.int (xs ((nI (4 * j)) + 1).toNatClampNeg)]) (rest := []) ⟨hx, hb, hml, hown, hts⟩ (c_X1_users l D cI cZ cT ρ x tq th O mt wh _ (xs ((nI (4 * j)) + 1).toNatClampNeg)) (cwV 1 hts gL_law_X1_users rfl rfl rfl (by decide +kernel) ⟨Nat.le_of_ble_eq_true rfl, Nat.le_of_ble_eq_true rfl⟩) (pre_v ⟨rfl, hp⟩ hKN (recv hKN hp.1 rfl)) rfl rfl hl.1 rfl (lv_room (Nat.le_of_ble_eq_true rfl)) dL_law_408 ⟨by show _ ≤ 600000; omega, by show _ ≤ 7302250; omega⟩) (fun r408 hr408 => ?_)
        rw [hr408]
        refine lv_aload_n hx hb dL_law_411 rfl (lv_at hl 2 rfl) ?_
        refine lv_aload_n hx hb dL_law_412 rfl (lv_at hl 0 rfl) ?_
        refine lv_iload_n hx hb dL_law_413 rfl (lv_at hl 3 rfl) ?_
        refine lv_iconst (v := 1) hx hb dL_law_414 (by decide) ?_
        refine lv_iadd hx hb dL_law_415 ?_
        refine va_sld hx hb hX hbl hbA hS (vp_in_iff.mpr ⟨by rw [hi1]; omega, by rw [hi1]; omega⟩) dL_law_416 ?_
        refine pq_i (va_runV (As := [.int (xs ((nI (4 * j)) + 1).toNatClampNeg)]) (rest := [.int (usr O (xs ((nI (4 * j)) + 1).toNatClampNeg))]) ⟨hx, hb, hml, hown, hts⟩ (c_X2_users l D cI cZ cT y a1 a2 a3 md sz fl O hrm mt wh _ (xs ((nI (4 * j)) + 1).toNatClampNeg)) (cwV 1 hts gL_law_X2_users rfl rfl rfl (by decide +kernel) ⟨Nat.le_of_ble_eq_true rfl, Nat.le_of_ble_eq_true rfl⟩) (pre_v ⟨rfl, hq⟩ hKN (recv hKN hq.1 rfl)) rfl rfl hl.1 rfl (lv_room (Nat.le_of_ble_eq_true rfl)) dL_law_417 ⟨by show _ ≤ 600000; omega, by show _ ≤ 7302250; omega⟩) (fun r417 hr417 => ?_)
        rw [hr417]
        refine lv_icmp_eq (tgt := 448) hx hb dL_law_420 (by decide) (fun _ => ?_) (fun c9 => absurd rfl c9)
        refine lv_iinc (v := ((nI (4 * j)) + 4)) (lv' := [(3, .int ((nI (4 * j)) + 4)), (0, .ref b), (1, .ref x), (2, .ref y)]) hx hb dL_law_448 hl (k := 3) rfl rfl (by decide) rfl (fun ls hl => ?_)
        refine lv_goto (tgt := 18) hx hb dL_law_451 (by decide) ?_
        rw [hi4] at hl
        refine W.widen (k := 6 + 2 * (j + 1)) (n := 17251 + 42 * (j + 1)) (by omega) (by omega) ?_
        exact ih (j + 1) (by omega) (by omega) _ _ _ _ _ ⟨_, _, _, _, _, _, _, _, _, hp, hq, hrm, hd, ho, hz2⟩ hS _ (lv_sub hl [1, 2, 3, 0] rfl)
      · refine lv_tableIn (off := 393) (tgt := 425) hx hb dL_law_32 (by rw [q]; decide) (by rw [q]; decide) (by rw [q]; decide) (by decide) ?_
        refine lv_aload_n hx hb dL_law_425 rfl (lv_at hl 1 rfl) ?_
        refine lv_aload_n hx hb dL_law_426 rfl (lv_at hl 0 rfl) ?_
        refine lv_iload_n hx hb dL_law_427 rfl (lv_at hl 3 rfl) ?_
        refine lv_iconst (v := 1) hx hb dL_law_428 (by decide) ?_
        refine lv_iadd hx hb dL_law_429 ?_
        refine va_sld hx hb hX hbl hbA hS (vp_in_iff.mpr ⟨by rw [hi1]; omega, by rw [hi1]; omega⟩) dL_law_430 ?_
        refine pq_i (va_runV (As := [.int (xs ((nI (4 * j)) + 1).toNatClampNeg)]) (rest := []) ⟨hx, hb, hml, hown, hts⟩ (c_X1_senders l D cI cZ cT ρ x tq th O mt wh _ (xs ((nI (4 * j)) + 1).toNatClampNeg)) (cwV 1 hts gL_law_X1_senders rfl rfl rfl (by decide +kernel) ⟨Nat.le_of_ble_eq_true rfl, Nat.le_of_ble_eq_true rfl⟩) (pre_v ⟨rfl, hp⟩ hKN (recv hKN hp.1 rfl)) rfl rfl hl.1 rfl (lv_room (Nat.le_of_ble_eq_true rfl)) dL_law_431 ⟨by show _ ≤ 600000; omega, by show _ ≤ 7302250; omega⟩) (fun r431 hr431 => ?_)
        rw [hr431]
        refine lv_aload_n hx hb dL_law_434 rfl (lv_at hl 2 rfl) ?_
        refine lv_aload_n hx hb dL_law_435 rfl (lv_at hl 0 rfl) ?_
        refine lv_iload_n hx hb dL_law_436 rfl (lv_at hl 3 rfl) ?_
        refine lv_iconst (v := 1) hx hb dL_law_437 (by decide) ?_
        refine lv_iadd hx hb dL_law_438 ?_
        refine va_sld hx hb hX hbl hbA hS (vp_in_iff.mpr ⟨by rw [hi1]; omega, by rw [hi1]; omega⟩) dL_law_439 ?_
        refine pq_i (va_runV (As := [.int (xs ((nI (4 * j)) + 1).toNatClampNeg)]) (rest := [.int (sdr O (xs ((nI (4 * j)) + 1).toNatClampNeg))]) ⟨hx, hb, hml, hown, hts⟩ (c_X2_senders l D cI cZ cT y a1 a2 a3 md sz fl O hrm mt wh _ (xs ((nI (4 * j)) + 1).toNatClampNeg)) (cwV 1 hts gL_law_X2_senders rfl rfl rfl (by decide +kernel) ⟨Nat.le_of_ble_eq_true rfl, Nat.le_of_ble_eq_true rfl⟩) (pre_v ⟨rfl, hq⟩ hKN (recv hKN hq.1 rfl)) rfl rfl hl.1 rfl (lv_room (Nat.le_of_ble_eq_true rfl)) dL_law_440 ⟨by show _ ≤ 600000; omega, by show _ ≤ 7302250; omega⟩) (fun r440 hr440 => ?_)
        rw [hr440]
        refine lv_icmp_eq (tgt := 448) hx hb dL_law_443 (by decide) (fun _ => ?_) (fun c9 => absurd rfl c9)
        refine lv_iinc (v := ((nI (4 * j)) + 4)) (lv' := [(3, .int ((nI (4 * j)) + 4)), (0, .ref b), (1, .ref x), (2, .ref y)]) hx hb dL_law_448 hl (k := 3) rfl rfl (by decide) rfl (fun ls hl => ?_)
        refine lv_goto (tgt := 18) hx hb dL_law_451 (by decide) ?_
        rw [hi4] at hl
        refine W.widen (k := 6 + 2 * (j + 1)) (n := 17251 + 42 * (j + 1)) (by omega) (by omega) ?_
        exact ih (j + 1) (by omega) (by omega) _ _ _ _ _ ⟨_, _, _, _, _, _, _, _, _, hp, hq, hrm, hd, ho, hz2⟩ hS _ (lv_sub hl [1, 2, 3, 0] rfl)
      · refine lv_tableOut (tgt := 448) hx hb dL_law_32 (Or.inr q) (by decide) ?_
        refine lv_iinc (v := ((nI (4 * j)) + 4)) (lv' := [(3, .int ((nI (4 * j)) + 4)), (0, .ref b), (1, .ref x), (2, .ref y)]) hx hb dL_law_448 hl (k := 3) rfl rfl (by decide) rfl (fun ls hl => ?_)
        refine lv_goto (tgt := 18) hx hb dL_law_451 (by decide) ?_
        rw [hi4] at hl
        refine W.widen (k := 6 + 2 * (j + 1)) (n := 17251 + 42 * (j + 1)) (by omega) (by omega) ?_
        exact ih (j + 1) (by omega) (by omega) _ _ _ _ _ ⟨_, _, _, _, _, _, _, _, _, hp, hq, hrm, hd, ho, hz2⟩ hS _ (lv_sub hl [1, 2, 3, 0] rfl)
end
section
theorem px_new {D : va_G} {cI cT : ClassId} {h tq : Nat} {H : Heap} (h1 : va_at D vwCl (h, .inr (1, [.ref tq, .int 0, .int 0])) H) (h2 : va_at D vwCl (tq, .inl (cT, 401, .inr (.inr (.inr (.inr (fun _ => none)))))) H) (hne : h ≠ tq) : px D cI cT (fun q => if q = h then 1 else if q = tq then 2 else 0) h tq (fun _ => none) ob0 0 0 H := by
  refine ⟨h1, h2, if_pos rfl, ?_, fun q hq => ?_, rfl, fun k _ _ => Or.inl ⟨rfl, rfl⟩⟩
  · show (if tq = h then 1 else if tq = tq then 2 else 0) = 2
    rw [if_neg (Ne.symm hne), if_pos rfl]
  · by_cases e1 : q = h
    · rw [e1]; exact h1.lt
    · by_cases e2 : q = tq
      · rw [e2]; exact h2.lt
      · exact absurd (show (if q = h then 1 else if q = tq then 2 else 0) = 0 by rw [if_neg e1, if_neg e2]) hq
theorem rm_new : rm ob0 (fun _ => 0) (fun _ => 0) (fun _ => 0) := fun k _ _ => Or.inl ⟨rfl, rfl⟩
set_option maxHeartbeats 16000000 in
set_option maxRecDepth 100000 in
/-- THE LAW, from its entry -/
theorem whole_start {p : Program} {e : Env} {s : State} {m : MethodId} {below : List Frame} {meth : Method} {c : Code} (l : Launch) (hflags : l.flags = flags0) {b L : Nat} {xs : Nat → Int32} (hL : L ≤ 2048) (C0 : lw_At p s m meth c b L xs) : W p l e room_1 s m #[Value.ref b] below meth c s.heap [] 0 0 (lw_Z below #[Value.ref b] s) (entryFrame m ([Value.ref b] : List Value).toArray 4) := by
  obtain ⟨hx, hb, hr, hml, hown, hts0, hX, hbl, hlocks, hgv⟩ := id C0
  have hts : ∀ w ∈ wsL_law, w.before #[Value.ref b] s = true := fun w h => hts0 w (wsL_law_in w h)
  have hown : s.vm.findClass RL = some m.cls := hown
  obtain ⟨c0, iS0, hKn0⟩ := u_known (C := RX0) (T := TX0) (N := 2) (n := 2) hts0 inX0 (hts0 (.instantiable RX0 2) (by decide +kernel))
  obtain ⟨c1, iS1, hKn1⟩ := u_known (C := RX1) (T := TX1) (N := 3) (n := 3) hts0 inX1 (hts0 (.instantiable RX1 3) (by decide +kernel))
  obtain ⟨c2, iS2, hKn2⟩ := u_known (C := RX2) (T := TX2) (N := 5) (n := 5) hts0 inX2 (hts0 (.instantiable RX2 5) (by decide +kernel))
  obtain ⟨D, hKc⟩ : ∃ (D : va_G), ∀ (k : Nat) (q : vw_C), vwCl[k]? = some q → u_Kn s q.1 q.2.1 q.2.2 (D.1 k) (D.2 k) := by
    refine ⟨(fun k => if k = 0 then c0 else if k = 1 then c1 else c2, fun k => if k = 0 then iS0 else if k = 1 then iS1 else iS2), ?_⟩
    intro k q hq
    match k, hq with
    | 0, hq => cases hq; exact hKn0
    | 1, hq => cases hq; exact hKn1
    | 2, hq => cases hq; exact hKn2
    | k + 3, hq => simp [vwCl] at hq
  have hK : va_K D vwCl [] s := ⟨hKc, fun k q h => by simp at h⟩
  have hN : nx s := ⟨va_Nw.of rfl (hts0 (.methodLinkNest RX1 22 yX0_init RX1) (by decide +kernel)), va_Nw.of rfl (hts0 (.fieldLinkNest RX1 45 RX0 "fields" "[I" RX1) (by decide +kernel)), va_Nw.of rfl (hts0 (.fieldLinkNest RX1 41 RX0 "ofFields" "Z" RX1) (by decide +kernel)), va_Nw.of rfl (hts0 (.methodLinkNest RX1 33 yX0_setField RX1) (by decide +kernel)), va_Nw.of rfl (hts0 (.methodLinkNest RX1 37 yX0_field RX1) (by decide +kernel)), va_Nw.of rfl (hts0 (.methodLinkNest RX1 71 yX0_canBeClass RX1) (by decide +kernel)), va_Nw.of rfl (hts0 (.methodLinkNest RX1 78 yX0_placeOfMethod RX1) (by decide +kernel)), va_Nw.of rfl (hts0 (.methodLinkNest RX1 68 yX0_exchange RX1) (by decide +kernel))⟩
  have hAO : va_AO RX0 s := va_AO.of (hts0 (.arrayOver (.object RX0)) (by decide +kernel))
  have hS : va_S (fun q : Nat => s.heap.size ≤ q) s.heap s.heap [] := va_S.rf
  have hl := lv_entry ([.ref b]) (n := 4) (Nat.le_of_ble_eq_true rfl)
  rw [lg_entry_eq]
  generalize (lg_sl ([.ref b]) ++ List.replicate (4 - (lg_sl ([.ref b])).length) Slot.unset).toArray = ls at hl ⊢
  have hl : lv_has ls 4 [(0, .ref b)] := hl
  refine pw_new (ci := 1) (fs := [.null, .int 0, .int 0]) (C := RX1) (T := TX1) (N := 3) hx hb hts inlX1 tyX1 tyX1_ok hown (hts (.classLink RL 7 RX1) (by decide +kernel)) (hts (.instantiable RX1 3) (by decide +kernel)) (hts (.initialized RX1) (by decide +kernel)) hK hS rfl (fun j hj => by rcases (show j = 0 ∨ j = 1 ∨ j = 2 by omega) with rfl | rfl | rfl <;> rfl) (Nat.le_of_ble_eq_true rfl) (Nat.le_of_ble_eq_true rfl) dL_law_0 (fun x H hqx hnx hzx hox hS => ?_)
  refine lv_dup hx hb dL_law_3 rfl ?_
  refine pm_v (va_runI (As := []) (rest := [.ref x]) ⟨hx, hb, hml, hown, hts⟩ (c_X1_init l D x H) (cwI 0 hts gL_law_X1_init rfl rfl rfl (hts (.initialized RX1) (by decide +kernel)) (hts (.methodLink RL 9 yX1_init) (by decide +kernel)) (hts (.instanceMethod yX1_init) (by decide +kernel)) rfl (by decide +kernel) ⟨Nat.le_of_ble_eq_true rfl, Nat.le_of_ble_eq_true rfl⟩) (pre_1 ⟨rfl, hnx⟩ hK hAO) rfl rfl hl.1 rfl (lv_room (Nat.le_of_ble_eq_true rfl)) dL_law_4 ⟨Nat.le_of_ble_eq_true rfl, Nat.le_of_ble_eq_true rfl⟩) hS (fun q _ h9 => by show s.heap.size ≤ q; rcases h9 with h9 | h9 <;> omega) (fun q h9 => by show s.heap.size ≤ q; rcases h9 with h9 | h9 <;> omega) (fun t1 H1 locs ht1 hvm1 hq1 hz1 hk1 hS => ?_)
  obtain ⟨tq, cT, at1, at2, hzt, hnt, hKT⟩ := hq1
  rw [ht1] at at1 at2
  have hKT := va_K.moved hvm1.symm hKT
  refine lv_astore_n (lv' := [(1, .ref x), (0, .ref b)]) hx hb dL_law_7 rfl hl (by decide) rfl (fun ls hl => ?_)
  refine pw_new (ci := 2) (fs := [.null, .null, .null, .int 0, .int 0]) (C := RX2) (T := TX2) (N := 5) hx hb hts inlX2 tyX2 tyX2_ok hown (hts (.classLink RL 10 RX2) (by decide +kernel)) (hts (.instantiable RX2 5) (by decide +kernel)) (hts (.initialized RX2) (by decide +kernel)) hK hS rfl (fun j hj => by rcases (show j = 0 ∨ j = 1 ∨ j = 2 ∨ j = 3 ∨ j = 4 by omega) with rfl | rfl | rfl | rfl | rfl <;> rfl) (Nat.le_of_ble_eq_true rfl) (Nat.le_of_ble_eq_true rfl) dL_law_8 (fun y H2 hqy hny hzy hoy hS => ?_)
  refine lv_dup hx hb dL_law_11 rfl ?_
  refine pm_v (va_runI (As := []) (rest := [.ref y]) ⟨hx, hb, hml, hown, hts⟩ (c_X2_init l D y H2) (cwI 0 hts gL_law_X2_init rfl rfl rfl (hts (.initialized RX2) (by decide +kernel)) (hts (.methodLink RL 12 yX2_init) (by decide +kernel)) (hts (.instanceMethod yX2_init) (by decide +kernel)) rfl (by decide +kernel) ⟨Nat.le_of_ble_eq_true rfl, Nat.le_of_ble_eq_true rfl⟩) ⟨fun a U g mk q => ⟨q.1, q.2.1, va_K.moved (u := U) (U := U.calling g mk a) (Vm.Alike.refl U.vm) q.2.2⟩, fun U hU hW => ⟨rfl, ⟨hU, hny⟩, va_K.moved hW.alike hK⟩⟩ rfl rfl hl.1 rfl (lv_room (Nat.le_of_ble_eq_true rfl)) dL_law_12 ⟨Nat.le_of_ble_eq_true rfl, Nat.le_of_ble_eq_true rfl⟩) hS (fun q _ h9 => by show s.heap.size ≤ q; rcases h9 with h9 | h9 <;> omega) (fun q h9 => by show s.heap.size ≤ q; rcases h9 with h9 | h9 <;> omega) (fun t3 H3 locs ht3 hvm3 hq3 hz3 hk3 hS => ?_)
  obtain ⟨a1, a2, a3, cI, cZ, hmy, ⟨za1, za2, za3⟩, hKI⟩ := hq3
  rw [ht3] at hmy
  have hKI := va_K.moved hvm3.symm hKI
  have hKN : KN D cI cZ cT s := ⟨hKI.app hKT, hN⟩
  have lx : x < H1.size := at1.lt
  have lt : tq < H1.size := at2.lt
  have b1 := (at1.kept (hoy x lx)).kept (hk3 x (by omega) (fun h9 => by rcases h9 with h9 | h9 <;> omega))
  have b2 := (at2.kept (hoy tq lt)).kept (hk3 tq (by omega) (fun h9 => by rcases h9 with h9 | h9 <;> omega))
  have hpx := px_new (cI := cI) b1 b2 hnt
  have ro : ∀ q : Nat, H1.size ≤ q → (fun q => if q = x then 1 else if q = tq then 2 else 0) q = 0 := fun q hq => by
    show (if q = x then 1 else if q = tq then 2 else 0) = 0
    rw [if_neg (by omega), if_neg (by omega)]
  refine lv_astore_n (lv' := [(2, .ref y), (1, .ref x), (0, .ref b)]) hx hb dL_law_15 rfl hl (by decide) rfl (fun ls hl => ?_)
  refine lv_iconst (v := 0) hx hb dL_law_16 (by decide) ?_
  refine lv_istore_n (lv' := [(3, .int 0), (2, .ref y), (1, .ref x), (0, .ref b)]) hx hb dL_law_17 rfl hl (by decide) rfl (fun ls hl => ?_)
  refine W.widen (k := 6 + 2 * 0) (n := 17251 + 42 * 0) (Nat.le_of_ble_eq_true rfl) (Nat.le_of_ble_eq_true rfl) ?_
  exact law_loop hL C0 hKN 512 0 (by omega) (by omega) ob0 0 0 _ _ ⟨_, tq, _, a1, a2, a3, _, _, _, hpx, hmy, rm_new, ⟨ro y (by omega), ro a1 (by omega), ro a2 (by omega), ro a3 (by omega)⟩, fun q h9 => by
    by_cases e1 : q = x
    · omega
    · by_cases e2 : q = tq
      · omega
      · exact absurd (show (if q = x then 1 else if q = tq then 2 else 0) = 0 by rw [if_neg e1, if_neg e2]) h9, ⟨by omega, by omega, by omega, by omega⟩⟩ hS _ (lv_sub hl [3, 2, 1, 0] rfl)
end
section
set_option maxHeartbeats 4000000 in
theorem lw_walk (l : Launch) (hflags : l.flags = flags0) (b : Addr) (xs : List Int32) : MetFree l x (headSpec (Jvm.Cond.code x code maxLocals ret :: tables_1) room_1) (lw_P b xs) (fun _ _ _ _ _ => True) lw_Q := by
  refine MetFree.of_bodyS (code := code) (maxLocals := maxLocals) (ret := ret) (by decide) ?_ ?_
  · intro args s m h hn
    obtain ⟨meth, c, h1, h2, h3, h4, h5, h6, -, -⟩ := Cond.code_spec hn (atoms_spec (ws := Jvm.Cond.code x code maxLocals ret :: tables_1) h _ List.mem_cons_self)
    exact ⟨meth, c, h1, h2, h3, h4, h5, h6⟩
  · intro p e s m args below meth c s₁ B hml0 hP _
    obtain ⟨rfl, hx, hbd, hgv⟩ := hP
    obtain ⟨scr, harrAt, hlist, hof, hsmall⟩ := hx
    obtain ⟨hcb, hkn, -, -⟩ := State.arrayAt?_spec harrAt
    have hown : s.vm.findClass R_law = some m.cls := findClass_of_methodNamed B.named
    have hts0 : ∀ c ∈ (Jvm.Cond.code x code maxLocals ret :: tables_1), c.before #[Value.ref b] s = true := atoms_spec (ws := Jvm.Cond.code x code maxLocals ret :: tables_1) B.pre
    have hts : ∀ w ∈ lw_tbl, w.before #[Value.ref b] s = true := k2_hts_sels lw_privs (fun w hw => hts0 w (List.mem_cons_of_mem _ hw)) lw_privs_ok
    have hml : c.maxLocals = 4 := B.maxLocals_eq (hts0 _ List.mem_cons_self)
    have X₀ : Stand p l e room_1 s m #[Value.ref b] below meth c s₁ [] 0 0 := Stand.of_body B
    have hh0 : s₁.heap = s.heap := by rw [B.state]; rfl
    have hsz : scr.slots.size = xs.length := by rw [← Array.length_toList, hlist, List.length_map]
    have hval : ∀ j : Nat, j < xs.length → scr.slots[j]? = some (.int (xs.getD j 0)) := fun j hj => by
      rw [← Array.getElem?_toList, hlist]
      simp [hj]
    have hbl : b < s.heap.size := (Array.getElem?_eq_some_iff.mp hcb).1
    have hX : va_X b xs.length (fun j => xs.getD j 0) s s.heap := ⟨scr, hcb, hof, hkn, hsz, hval⟩
    have K : W p l e room_1 s m #[Value.ref b] below meth c s₁.heap [] 0 0 (lw_Z below #[Value.ref b] s) (entryFrame m ([Value.ref b] : List Value).toArray 4) := by
      rw [hh0]
      exact whole_start l hflags hbd ⟨B.exec, B.bytes, B.returns, hml, hown, hts, hX, hbl, B.notSynchronized, hgv⟩
    obtain ⟨t, a1, o, b1, b2, b3⟩ := K s₁ rfl X₀
    exact ⟨t, o, a1, b1, b2, b3⟩
theorem lw_pre_spec {args : Array Value} {s : State} (h : (Jvm.Cond.and given_1 narrow_1).before args s = true) (hr : rest_1_c.before args s = true) : ∃ (b : Addr) (xs : List Int32), lw_P b xs args s := by
  have hs := flat_of_before _ h
  have hq := flat_of_before _ hr
  have hc : (Cond.count 1).before args s = true := hs _ (by decide +kernel)
  have harr : (Cond.arrayOf (.arg 0) .int).before args s = true := hs _ (by decide +kernel)
  have hle : (Cond.le (.length (.arg 0)) (.int 2048)).before args s = true := hs _ (by decide +kernel)
  have hlen : (Cond.isInt (.length (.arg 0))).before args s = true := hq _ (by decide +kernel)
  have hall : (Cond.all (.arg 0) (.isInt (.elem (.arg 0) (.index 0)))).before args s = true := hq _ (by decide +kernel)
  obtain ⟨b, xs, hb, hx⟩ := State.ints_of_pre rfl harr hlen hall
  have hsm : xs.length < 2 ^ 31 := hx.choose_spec.2.2.2
  have hev : (Term.length (.arg 0)).eval args s none [] s = some (.int xs.length.toInt32) := hx.length_eval hb
  have hv := Cond.le_ints hev (show (Term.int 2048).eval args s none [] s = some (.int 2048) from rfl)
  have hd : xs.length.toInt32 ≤ 2048 := by
    simpa [Cond.before, Cond.holds, hv] using hle
  have hN : xs.length ≤ 2048 := (Int32.ofNat_le_ofNat hsm (by decide)).mp (show Int32.ofNat xs.length ≤ Int32.ofNat 2048 from hd)
  exact ⟨b, xs, Cond.one_arg hc (show args[0]? = some (.ref b) from hb), hx, hN, h⟩
theorem lw_comes (l : Launch) (hflags : l.flags = flags0) : Comes l x (Jvm.Cond.code x code maxLocals ret :: tables_1) room_1 (fun tb e args s => Calls_1 tb e args s ∧ rest_1 tb e args s ∧ Pre_1 tb e args s)
    (fun _ _ args s o t => lw_Q args s o t) := by
  intro p e ha hc hk s m args below hf hfit hheap happ hpre
  obtain ⟨b, xs, hP⟩ := lw_pre_spec hpre.2.2 hpre.2.1
  obtain ⟨k, o, h1, h2, h3, hQ⟩ := lw_walk l hflags b xs p e ha hc hk s m args below hf ((Spec.applies_iff_loose hf).mp happ).1 hP trivial
  exact ⟨k, o, h1, h2, h3, hQ⟩
theorem lw_frame {s t : State} {o : Outcome} {args : Array Value} (h : Framed s o t [] 600000 7302250) :
    Framed s o t (fieldLocs frame_1_writes args s ++ arrayLocs frame_1_arrays args s ++ staticLocs frame_1_statics s) 600000 7302250 := h
theorem lw_limb (L : Cond) (hL : ∀ (args : Array Value) (s t : State), L.after args s (.returned (some (.int 1))) t = true) :
    ArmFor flags0 classFile x code maxLocals ret World_1 tables_1 room_1 Calls_1 rest_1 Pre_1
      (fun tb e a s o t => postC L tb e a s o t ∧ Framed s o t (fieldLocs frame_1_writes a s ++ arrayLocs frame_1_arrays a s ++ staticLocs frame_1_statics s) 600000 7302250) := by
  intro l hflags _ _ p e ha hc hk s m args below hf hfit hheap happ hpre
  obtain ⟨k, o, h1, h2, h3, rfl, hF⟩ := lw_comes l hflags p e ha hc hk s m args below hf hfit hheap happ hpre
  exact ⟨k, _, h1, h2, h3, hL args s _, lw_frame hF⟩
theorem i_vc : Claimed_1_1 ∧ Claimed_1_2 := ⟨lw_limb limb_1_1 (fun args s t => by simp [limb_1_1, Cond.after, Cond.holds, Cond.value]), lw_limb limb_1_2 (fun args s t => Cond.after_iff.mpr (by
  first | (rw [show limb_1_2 = Cond.eq .result (.int 1) from rfl, Cond.eq_ints (x := 1) (y := 1) rfl rfl]; simp; done) | (simp [limb_1_2, Cond.value, Term.eval]; done)))⟩
end
