-- ===== PART A: goes FIRST, ahead of the names: the tables' words, and 'selects' of the private methods out of them =====
/-- a private method of a class that the tables say can be made, by its rows of tables_1 -/
def lw_okq (q : MethodName × Nat) : Prop := (q.1.cls ≠ "java/lang/invoke/MethodHandle" ∧ q.1.cls ≠ "java/lang/invoke/VarHandle") ∧ Cond.instantiable q.1.cls q.2 ∈ tables_1 ∧ Cond.privateMethod q.1 ∈ tables_1 ∧ Cond.instanceMethod q.1 ∈ tables_1
theorem lw_p0 : lw_okq (⟨"ShapeForms$Program", "isInside", "(I)Z"⟩, 7) := ⟨⟨by decide +kernel, by decide +kernel⟩, List.mem_of_getElem? (i := 16) (by decide +kernel), List.mem_of_getElem? (i := 186) (by decide +kernel), List.mem_of_getElem? (i := 187) (by decide +kernel)⟩
theorem lw_p1 : lw_okq (⟨"ShapeForms$Program", "step", "(ILShapeForms$Heap;)I"⟩, 7) := ⟨⟨by decide +kernel, by decide +kernel⟩, List.mem_of_getElem? (i := 16) (by decide +kernel), List.mem_of_getElem? (i := 190) (by decide +kernel), List.mem_of_getElem? (i := 191) (by decide +kernel)⟩
theorem lw_p2 : lw_okq (⟨"ShapeForms$Heap", "clearMarks", "()V"⟩, 6) := ⟨⟨by decide +kernel, by decide +kernel⟩, List.mem_of_getElem? (i := 46) (by decide +kernel), List.mem_of_getElem? (i := 272) (by decide +kernel), List.mem_of_getElem? (i := 273) (by decide +kernel)⟩
theorem lw_p3 : lw_okq (⟨"ShapeForms$Heap", "mark", "(II)I"⟩, 6) := ⟨⟨by decide +kernel, by decide +kernel⟩, List.mem_of_getElem? (i := 46) (by decide +kernel), List.mem_of_getElem? (i := 277) (by decide +kernel), List.mem_of_getElem? (i := 278) (by decide +kernel)⟩
theorem lw_p4 : lw_okq (⟨"ShapeForms$Heap", "takeMark", "(I)Z"⟩, 6) := ⟨⟨by decide +kernel, by decide +kernel⟩, List.mem_of_getElem? (i := 46) (by decide +kernel), List.mem_of_getElem? (i := 281) (by decide +kernel), List.mem_of_getElem? (i := 282) (by decide +kernel)⟩
theorem lw_p5 : lw_okq (⟨"ShapeForms$Heap", "isList", "(I)Z"⟩, 6) := ⟨⟨by decide +kernel, by decide +kernel⟩, List.mem_of_getElem? (i := 46) (by decide +kernel), List.mem_of_getElem? (i := 286) (by decide +kernel), List.mem_of_getElem? (i := 287) (by decide +kernel)⟩
theorem lw_p6 : lw_okq (⟨"ShapeForms$Heap", "behindLast", "(I)I"⟩, 6) := ⟨⟨by decide +kernel, by decide +kernel⟩, List.mem_of_getElem? (i := 46) (by decide +kernel), List.mem_of_getElem? (i := 290) (by decide +kernel), List.mem_of_getElem? (i := 291) (by decide +kernel)⟩
theorem lw_p7 : lw_okq (⟨"ShapeForms$Heap", "linksBack", "(I)Z"⟩, 6) := ⟨⟨by decide +kernel, by decide +kernel⟩, List.mem_of_getElem? (i := 46) (by decide +kernel), List.mem_of_getElem? (i := 294) (by decide +kernel), List.mem_of_getElem? (i := 295) (by decide +kernel)⟩
theorem lw_p8 : lw_okq (⟨"ShapeForms$Heap", "isRing", "(I)Z"⟩, 6) := ⟨⟨by decide +kernel, by decide +kernel⟩, List.mem_of_getElem? (i := 46) (by decide +kernel), List.mem_of_getElem? (i := 298) (by decide +kernel), List.mem_of_getElem? (i := 299) (by decide +kernel)⟩
theorem lw_p9 : lw_okq (⟨"ShapeForms$Heap", "isTree", "(I)Z"⟩, 6) := ⟨⟨by decide +kernel, by decide +kernel⟩, List.mem_of_getElem? (i := 46) (by decide +kernel), List.mem_of_getElem? (i := 302) (by decide +kernel), List.mem_of_getElem? (i := 303) (by decide +kernel)⟩
theorem lw_p10 : lw_okq (⟨"ShapeForms$Heap", "neverFalls", "(I)Z"⟩, 6) := ⟨⟨by decide +kernel, by decide +kernel⟩, List.mem_of_getElem? (i := 46) (by decide +kernel), List.mem_of_getElem? (i := 306) (by decide +kernel), List.mem_of_getElem? (i := 307) (by decide +kernel)⟩
theorem lw_p11 : lw_okq (⟨"ShapeForms$Starts", "buildTree", "(LShapeForms$Heap;II)Z"⟩, 1) := ⟨⟨by decide +kernel, by decide +kernel⟩, List.mem_of_getElem? (i := 77) (by decide +kernel), List.mem_of_getElem? (i := 334) (by decide +kernel), List.mem_of_getElem? (i := 335) (by decide +kernel)⟩
theorem lw_p12 : lw_okq (⟨"ShapeForms$Starts", "leaveWaiting", "(III)I"⟩, 1) := ⟨⟨by decide +kernel, by decide +kernel⟩, List.mem_of_getElem? (i := 77) (by decide +kernel), List.mem_of_getElem? (i := 343) (by decide +kernel), List.mem_of_getElem? (i := 344) (by decide +kernel)⟩
theorem lw_p13 : lw_okq (⟨"ShapeForms$Starts", "pushWaiting", "(II)I"⟩, 1) := ⟨⟨by decide +kernel, by decide +kernel⟩, List.mem_of_getElem? (i := 77) (by decide +kernel), List.mem_of_getElem? (i := 347) (by decide +kernel), List.mem_of_getElem? (i := 348) (by decide +kernel)⟩
theorem lw_p14 : lw_okq (⟨"ShapeForms", "tryStart", "(IIZ)I"⟩, 6) := ⟨⟨by decide +kernel, by decide +kernel⟩, List.mem_of_getElem? (i := 8) (by decide +kernel), List.mem_of_getElem? (i := 360) (by decide +kernel), List.mem_of_getElem? (i := 361) (by decide +kernel)⟩
theorem lw_p15 : lw_okq (⟨"ShapeForms$Heap", "reachedWith", "(II)I"⟩, 6) := ⟨⟨by decide +kernel, by decide +kernel⟩, List.mem_of_getElem? (i := 46) (by decide +kernel), List.mem_of_getElem? (i := 375) (by decide +kernel), List.mem_of_getElem? (i := 376) (by decide +kernel)⟩
def lw_privs_1 : List (MethodName × Nat) := [(⟨"ShapeForms$Program", "isInside", "(I)Z"⟩, 7), (⟨"ShapeForms$Program", "step", "(ILShapeForms$Heap;)I"⟩, 7), (⟨"ShapeForms$Heap", "clearMarks", "()V"⟩, 6), (⟨"ShapeForms$Heap", "mark", "(II)I"⟩, 6), (⟨"ShapeForms$Heap", "takeMark", "(I)Z"⟩, 6), (⟨"ShapeForms$Heap", "isList", "(I)Z"⟩, 6), (⟨"ShapeForms$Heap", "behindLast", "(I)I"⟩, 6), (⟨"ShapeForms$Heap", "linksBack", "(I)Z"⟩, 6), (⟨"ShapeForms$Heap", "isRing", "(I)Z"⟩, 6), (⟨"ShapeForms$Heap", "isTree", "(I)Z"⟩, 6), (⟨"ShapeForms$Heap", "neverFalls", "(I)Z"⟩, 6), (⟨"ShapeForms$Starts", "buildTree", "(LShapeForms$Heap;II)Z"⟩, 1), (⟨"ShapeForms$Starts", "leaveWaiting", "(III)I"⟩, 1), (⟨"ShapeForms$Starts", "pushWaiting", "(II)I"⟩, 1), (⟨"ShapeForms", "tryStart", "(IIZ)I"⟩, 6), (⟨"ShapeForms$Heap", "reachedWith", "(II)I"⟩, 6)]
theorem lw_r1 : ∀ q ∈ lw_privs_1, lw_okq q := List.forall_mem_cons.mpr ⟨lw_p0, List.forall_mem_cons.mpr ⟨lw_p1, List.forall_mem_cons.mpr ⟨lw_p2, List.forall_mem_cons.mpr ⟨lw_p3, List.forall_mem_cons.mpr ⟨lw_p4, List.forall_mem_cons.mpr ⟨lw_p5, List.forall_mem_cons.mpr ⟨lw_p6, List.forall_mem_cons.mpr ⟨lw_p7, List.forall_mem_cons.mpr ⟨lw_p8, List.forall_mem_cons.mpr ⟨lw_p9, List.forall_mem_cons.mpr ⟨lw_p10, List.forall_mem_cons.mpr ⟨lw_p11, List.forall_mem_cons.mpr ⟨lw_p12, List.forall_mem_cons.mpr ⟨lw_p13, List.forall_mem_cons.mpr ⟨lw_p14, List.forall_mem_cons.mpr ⟨lw_p15, fun _ h => absurd h List.not_mem_nil⟩⟩⟩⟩⟩⟩⟩⟩⟩⟩⟩⟩⟩⟩⟩⟩
theorem lw_p16 : lw_okq (⟨"ShapeForms$Heap", "nodesWith", "(I)I"⟩, 6) := ⟨⟨by decide +kernel, by decide +kernel⟩, List.mem_of_getElem? (i := 46) (by decide +kernel), List.mem_of_getElem? (i := 379) (by decide +kernel), List.mem_of_getElem? (i := 380) (by decide +kernel)⟩
theorem lw_p17 : lw_okq (⟨"ShapeFormsModel", "isNode", "(I)Z"⟩, 23) := ⟨⟨by decide +kernel, by decide +kernel⟩, List.mem_of_getElem? (i := 399) (by decide +kernel), List.mem_of_getElem? (i := 505) (by decide +kernel), List.mem_of_getElem? (i := 506) (by decide +kernel)⟩
theorem lw_p18 : lw_okq (⟨"ShapeFormsModel", "has", "(II)Z"⟩, 23) := ⟨⟨by decide +kernel, by decide +kernel⟩, List.mem_of_getElem? (i := 399) (by decide +kernel), List.mem_of_getElem? (i := 534) (by decide +kernel), List.mem_of_getElem? (i := 535) (by decide +kernel)⟩
theorem lw_p19 : lw_okq (⟨"ShapeFormsModel", "ends", "(I)Z"⟩, 23) := ⟨⟨by decide +kernel, by decide +kernel⟩, List.mem_of_getElem? (i := 399) (by decide +kernel), List.mem_of_getElem? (i := 538) (by decide +kernel), List.mem_of_getElem? (i := 539) (by decide +kernel)⟩
theorem lw_p20 : lw_okq (⟨"ShapeFormsModel", "gather", "(IZ)V"⟩, 23) := ⟨⟨by decide +kernel, by decide +kernel⟩, List.mem_of_getElem? (i := 399) (by decide +kernel), List.mem_of_getElem? (i := 542) (by decide +kernel), List.mem_of_getElem? (i := 543) (by decide +kernel)⟩
theorem lw_p21 : lw_okq (⟨"ShapeFormsModel", "isDoubly", "(I)Z"⟩, 23) := ⟨⟨by decide +kernel, by decide +kernel⟩, List.mem_of_getElem? (i := 399) (by decide +kernel), List.mem_of_getElem? (i := 546) (by decide +kernel), List.mem_of_getElem? (i := 547) (by decide +kernel)⟩
theorem lw_p22 : lw_okq (⟨"ShapeFormsModel", "isTree", "(I)Z"⟩, 23) := ⟨⟨by decide +kernel, by decide +kernel⟩, List.mem_of_getElem? (i := 399) (by decide +kernel), List.mem_of_getElem? (i := 550) (by decide +kernel), List.mem_of_getElem? (i := 551) (by decide +kernel)⟩
theorem lw_p23 : lw_okq (⟨"ShapeFormsModel", "isSorted", "(I)Z"⟩, 23) := ⟨⟨by decide +kernel, by decide +kernel⟩, List.mem_of_getElem? (i := 399) (by decide +kernel), List.mem_of_getElem? (i := 554) (by decide +kernel), List.mem_of_getElem? (i := 555) (by decide +kernel)⟩
theorem lw_p24 : lw_okq (⟨"ShapeFormsModel", "keeps", "()V"⟩, 23) := ⟨⟨by decide +kernel, by decide +kernel⟩, List.mem_of_getElem? (i := 399) (by decide +kernel), List.mem_of_getElem? (i := 566) (by decide +kernel), List.mem_of_getElem? (i := 567) (by decide +kernel)⟩
theorem lw_p25 : lw_okq (⟨"ShapeFormsModel", "makesTrees", "(I)V"⟩, 23) := ⟨⟨by decide +kernel, by decide +kernel⟩, List.mem_of_getElem? (i := 399) (by decide +kernel), List.mem_of_getElem? (i := 570) (by decide +kernel), List.mem_of_getElem? (i := 571) (by decide +kernel)⟩
theorem lw_p26 : lw_okq (⟨"ShapeFormsModel", "isTreeOf", "(III)Z"⟩, 23) := ⟨⟨by decide +kernel, by decide +kernel⟩, List.mem_of_getElem? (i := 399) (by decide +kernel), List.mem_of_getElem? (i := 574) (by decide +kernel), List.mem_of_getElem? (i := 575) (by decide +kernel)⟩
theorem lw_p27 : lw_okq (⟨"ShapeFormsModel", "isAhead", "(III)Z"⟩, 23) := ⟨⟨by decide +kernel, by decide +kernel⟩, List.mem_of_getElem? (i := 399) (by decide +kernel), List.mem_of_getElem? (i := 578) (by decide +kernel), List.mem_of_getElem? (i := 579) (by decide +kernel)⟩
theorem lw_p28 : lw_okq (⟨"ShapeFormsModel", "starts", "(IIII)Z"⟩, 23) := ⟨⟨by decide +kernel, by decide +kernel⟩, List.mem_of_getElem? (i := 399) (by decide +kernel), List.mem_of_getElem? (i := 582) (by decide +kernel), List.mem_of_getElem? (i := 583) (by decide +kernel)⟩
theorem lw_p29 : lw_okq (⟨"ShapeFormsModel", "keysOf", "(III)Z"⟩, 23) := ⟨⟨by decide +kernel, by decide +kernel⟩, List.mem_of_getElem? (i := 399) (by decide +kernel), List.mem_of_getElem? (i := 586) (by decide +kernel), List.mem_of_getElem? (i := 587) (by decide +kernel)⟩
theorem lw_p30 : lw_okq (⟨"ShapeFormsModel", "areKept", "(IIII)Z"⟩, 23) := ⟨⟨by decide +kernel, by decide +kernel⟩, List.mem_of_getElem? (i := 399) (by decide +kernel), List.mem_of_getElem? (i := 592) (by decide +kernel), List.mem_of_getElem? (i := 593) (by decide +kernel)⟩
theorem lw_p31 : lw_okq (⟨"ShapeFormsModel", "comesBack", "()V"⟩, 23) := ⟨⟨by decide +kernel, by decide +kernel⟩, List.mem_of_getElem? (i := 399) (by decide +kernel), List.mem_of_getElem? (i := 596) (by decide +kernel), List.mem_of_getElem? (i := 597) (by decide +kernel)⟩
def lw_privs_2 : List (MethodName × Nat) := [(⟨"ShapeForms$Heap", "nodesWith", "(I)I"⟩, 6), (⟨"ShapeFormsModel", "isNode", "(I)Z"⟩, 23), (⟨"ShapeFormsModel", "has", "(II)Z"⟩, 23), (⟨"ShapeFormsModel", "ends", "(I)Z"⟩, 23), (⟨"ShapeFormsModel", "gather", "(IZ)V"⟩, 23), (⟨"ShapeFormsModel", "isDoubly", "(I)Z"⟩, 23), (⟨"ShapeFormsModel", "isTree", "(I)Z"⟩, 23), (⟨"ShapeFormsModel", "isSorted", "(I)Z"⟩, 23), (⟨"ShapeFormsModel", "keeps", "()V"⟩, 23), (⟨"ShapeFormsModel", "makesTrees", "(I)V"⟩, 23), (⟨"ShapeFormsModel", "isTreeOf", "(III)Z"⟩, 23), (⟨"ShapeFormsModel", "isAhead", "(III)Z"⟩, 23), (⟨"ShapeFormsModel", "starts", "(IIII)Z"⟩, 23), (⟨"ShapeFormsModel", "keysOf", "(III)Z"⟩, 23), (⟨"ShapeFormsModel", "areKept", "(IIII)Z"⟩, 23), (⟨"ShapeFormsModel", "comesBack", "()V"⟩, 23)]
theorem lw_r2 : ∀ q ∈ lw_privs_2, lw_okq q := List.forall_mem_cons.mpr ⟨lw_p16, List.forall_mem_cons.mpr ⟨lw_p17, List.forall_mem_cons.mpr ⟨lw_p18, List.forall_mem_cons.mpr ⟨lw_p19, List.forall_mem_cons.mpr ⟨lw_p20, List.forall_mem_cons.mpr ⟨lw_p21, List.forall_mem_cons.mpr ⟨lw_p22, List.forall_mem_cons.mpr ⟨lw_p23, List.forall_mem_cons.mpr ⟨lw_p24, List.forall_mem_cons.mpr ⟨lw_p25, List.forall_mem_cons.mpr ⟨lw_p26, List.forall_mem_cons.mpr ⟨lw_p27, List.forall_mem_cons.mpr ⟨lw_p28, List.forall_mem_cons.mpr ⟨lw_p29, List.forall_mem_cons.mpr ⟨lw_p30, List.forall_mem_cons.mpr ⟨lw_p31, fun _ h => absurd h List.not_mem_nil⟩⟩⟩⟩⟩⟩⟩⟩⟩⟩⟩⟩⟩⟩⟩⟩
def lw_privs : List (MethodName × Nat) := lw_privs_1 ++ (lw_privs_2)
def lw_tbl : List Cond := k2_sels lw_privs ++ tables_1
theorem lw_privs_ok : ∀ q ∈ lw_privs, lw_okq q := by
  show ∀ q ∈ lw_privs_1 ++ (lw_privs_2), lw_okq q
  exact List.forall_mem_append.mpr ⟨lw_r1, lw_r2⟩
theorem goodIn_r {big : List Cond} (ws : List Cond) (ps : List Nat) (hp : ws = ps.filterMap (fun i => big[i]?)) (h : ws.all goodWord = true) : GoodIn big ws := by
  intro w hw
  have h1 := List.all_eq_true.mp h w hw
  rw [hp] at hw
  obtain ⟨i, -, hi⟩ := List.mem_filterMap.mp hw
  have hm : w ∈ big := by first | exact List.mem_of_getElem? hi | exact List.getElem?_mem hi
  exact ⟨hm, good_of_word h1⟩
theorem goodIn_app {big a b : List Cond} (ha : GoodIn big a) (hb : GoodIn big b) : GoodIn big (a ++ b) := fun w h => (List.mem_append.mp h).elim (ha w) (hb w)
theorem goodIn_ca {big a b : List Cond} {c : Cond} (ha : GoodIn big (c :: a)) (hb : GoodIn big b) : GoodIn big (c :: (a ++ b)) := fun w h => (List.mem_cons.mp h).elim (fun e => ha w (List.mem_cons.mpr (Or.inl e))) (fun h => (List.mem_append.mp h).elim (fun h => ha w (List.mem_cons.mpr (Or.inr h))) (hb w))
theorem goodIn_sub {big ws : List Cond} (hm : ∀ w ∈ ws, w ∈ big) (h : ws.all goodWord = true) : GoodIn big ws := fun w hw => ⟨hm w hw, good_of_word (List.all_eq_true.mp h w hw)⟩
def RX0 : String := "ShapeForms$Heap"
def TX0 : u_T := fun k => match k with
  | 0 => ("ShapeForms$Heap", "keys", "[I", true)
  | 1 => ("ShapeForms$Heap", "targets", "[I", true)
  | 2 => ("ShapeForms$Heap", "variables", "[I", true)
  | 3 => ("ShapeForms$Heap", "nodes", "I", false)
  | 4 => ("ShapeForms$Heap", "reached", "[I", true)
  | _ => ("ShapeForms$Heap", "marked", "[Z", true)
def tyX0 : Nat → FieldType := fun k => match k with
  | 0 => .array .int
  | 1 => .array .int
  | 2 => .array .int
  | 3 => .int
  | 4 => .array .int
  | _ => .array .boolean
abbrev wsX00 : List Cond := u_ws RX0 TX0 6
theorem nmX0 : ∀ a, a < 6 → ∀ b, b < 6 → a ≠ b → (TX0 a).2.1 ≠ (TX0 b).2.1 := by decide +kernel
theorem tyX0_ok : ∀ k, k < 6 → parseFieldDescriptor (TX0 k).2.2.1 = some (tyX0 k) := by decide +kernel
abbrev cX0_init : ByteArray := prog_2_method_1_code
def yX0_init : MethodName := ⟨RX0, "<init>", "()V"⟩
abbrev cX0_drop : ByteArray := prog_2_method_2_code
def yX0_drop : MethodName := ⟨RX0, "drop", "()I"⟩
abbrev cX0_become : ByteArray := prog_2_method_3_code
def yX0_become : MethodName := ⟨RX0, "become", "(LShapeForms$Heap;)V"⟩
abbrev cX0_nodes : ByteArray := prog_2_method_4_code
def yX0_nodes : MethodName := ⟨RX0, "nodes", "()I"⟩
abbrev cX0_isNode : ByteArray := prog_2_method_5_code
def yX0_isNode : MethodName := ⟨RX0, "isNode", "(I)Z"⟩
abbrev cX0_isNodeOrNone : ByteArray := prog_2_method_6_code
def yX0_isNodeOrNone : MethodName := ⟨RX0, "isNodeOrNone", "(I)Z"⟩
abbrev cX0_add : ByteArray := prog_2_method_7_code
def yX0_add : MethodName := ⟨RX0, "add", "(I)I"⟩
abbrev cX0_key : ByteArray := prog_2_method_8_code
def yX0_key : MethodName := ⟨RX0, "key", "(I)I"⟩
abbrev cX0_setKey : ByteArray := prog_2_method_9_code
def yX0_setKey : MethodName := ⟨RX0, "setKey", "(II)V"⟩
abbrev cX0_target : ByteArray := prog_2_method_10_code
def yX0_target : MethodName := ⟨RX0, "target", "(II)I"⟩
abbrev cX0_setTarget : ByteArray := prog_2_method_11_code
def yX0_setTarget : MethodName := ⟨RX0, "setTarget", "(III)V"⟩
abbrev cX0_variable : ByteArray := prog_2_method_12_code
def yX0_variable : MethodName := ⟨RX0, "variable", "(I)I"⟩
abbrev cX0_setVariable : ByteArray := prog_2_method_13_code
def yX0_setVariable : MethodName := ⟨RX0, "setVariable", "(II)V"⟩
abbrev cX0_reach : ByteArray := prog_2_method_14_code
def yX0_reach : MethodName := ⟨RX0, "reach", "(IZ)I"⟩
abbrev cX0_mark : ByteArray := prog_2_method_15_code
def yX0_mark : MethodName := ⟨RX0, "mark", "(II)I"⟩
abbrev cX0_takeMark : ByteArray := prog_2_method_16_code
def yX0_takeMark : MethodName := ⟨RX0, "takeMark", "(I)Z"⟩
abbrev cX0_clearMarks : ByteArray := prog_2_method_17_code
def yX0_clearMarks : MethodName := ⟨RX0, "clearMarks", "()V"⟩
abbrev cX0_hasForm : ByteArray := prog_2_method_18_code
def yX0_hasForm : MethodName := ⟨RX0, "hasForm", "(II)Z"⟩
abbrev cX0_behindLast : ByteArray := prog_2_method_19_code
def yX0_behindLast : MethodName := ⟨RX0, "behindLast", "(I)I"⟩
abbrev cX0_isList : ByteArray := prog_2_method_20_code
def yX0_isList : MethodName := ⟨RX0, "isList", "(I)Z"⟩
abbrev cX0_isRing : ByteArray := prog_2_method_21_code
def yX0_isRing : MethodName := ⟨RX0, "isRing", "(I)Z"⟩
abbrev cX0_linksBack : ByteArray := prog_2_method_22_code
def yX0_linksBack : MethodName := ⟨RX0, "linksBack", "(I)Z"⟩
abbrev cX0_neverFalls : ByteArray := prog_2_method_23_code
def yX0_neverFalls : MethodName := ⟨RX0, "neverFalls", "(I)Z"⟩
abbrev cX0_isTree : ByteArray := prog_2_method_24_code
def yX0_isTree : MethodName := ⟨RX0, "isTree", "(I)Z"⟩
abbrev cX0_keepsKeys : ByteArray := prog_2_method_25_code
def yX0_keepsKeys : MethodName := ⟨RX0, "keepsKeys", "(IZLShapeForms$Heap;)Z"⟩
abbrev cX0_reachedWith : ByteArray := prog_2_method_26_code
def yX0_reachedWith : MethodName := ⟨RX0, "reachedWith", "(II)I"⟩
abbrev cX0_nodesWith : ByteArray := prog_2_method_27_code
def yX0_nodesWith : MethodName := ⟨RX0, "nodesWith", "(I)I"⟩
def RX1 : String := "ShapeForms$Program"
def TX1 : u_T := fun k => match k with
  | 0 => ("ShapeForms$Program", "ops", "[I", true)
  | 1 => ("ShapeForms$Program", "as", "[I", true)
  | 2 => ("ShapeForms$Program", "bs", "[I", true)
  | 3 => ("ShapeForms$Program", "cs", "[I", true)
  | 4 => ("ShapeForms$Program", "length", "I", false)
  | 5 => ("ShapeForms$Program", "done", "I", false)
  | _ => ("ShapeForms$Program", "last", "I", false)
def tyX1 : Nat → FieldType := fun k => match k with
  | 0 => .array .int
  | 1 => .array .int
  | 2 => .array .int
  | 3 => .array .int
  | 4 => .int
  | 5 => .int
  | _ => .int
abbrev wsX10 : List Cond := u_ws RX1 TX1 7
theorem nmX1 : ∀ a, a < 7 → ∀ b, b < 7 → a ≠ b → (TX1 a).2.1 ≠ (TX1 b).2.1 := by decide +kernel
theorem tyX1_ok : ∀ k, k < 7 → parseFieldDescriptor (TX1 k).2.2.1 = some (tyX1 k) := by decide +kernel
abbrev cX1_init : ByteArray := prog_3_method_1_code
def yX1_init : MethodName := ⟨RX1, "<init>", "()V"⟩
abbrev cX1_isInstruction : ByteArray := prog_3_method_2_code
def yX1_isInstruction : MethodName := ⟨RX1, "isInstruction", "(IIII)Z"⟩
abbrev cX1_fits : ByteArray := prog_3_method_3_code
def yX1_fits : MethodName := ⟨RX1, "fits", "(II)Z"⟩
abbrev cX1_add : ByteArray := prog_3_method_4_code
def yX1_add : MethodName := ⟨RX1, "add", "(IIII)I"⟩
abbrev cX1_drop : ByteArray := prog_3_method_5_code
def yX1_drop : MethodName := ⟨RX1, "drop", "()I"⟩
abbrev cX1_length : ByteArray := prog_3_method_6_code
def yX1_length : MethodName := ⟨RX1, "length", "()I"⟩
abbrev cX1_stepsDone : ByteArray := prog_3_method_7_code
def yX1_stepsDone : MethodName := ⟨RX1, "stepsDone", "()I"⟩
abbrev cX1_lastStep : ByteArray := prog_3_method_8_code
def yX1_lastStep : MethodName := ⟨RX1, "lastStep", "()I"⟩
abbrev cX1_execute : ByteArray := prog_3_method_9_code
def yX1_execute : MethodName := ⟨RX1, "execute", "(LShapeForms$Heap;)I"⟩
abbrev cX1_isInside : ByteArray := prog_3_method_10_code
def yX1_isInside : MethodName := ⟨RX1, "isInside", "(I)Z"⟩
abbrev cX1_stop : ByteArray := prog_3_method_11_code
def yX1_stop : MethodName := ⟨RX1, "stop", "(I)I"⟩
abbrev cX1_outcomeOf : ByteArray := prog_3_method_12_code
def yX1_outcomeOf : MethodName := ⟨RX1, "outcomeOf", "(I)I"⟩
abbrev cX1_step : ByteArray := prog_3_method_13_code
def yX1_step : MethodName := ⟨RX1, "step", "(ILShapeForms$Heap;)I"⟩
abbrev cX1_makeNode : ByteArray := prog_3_method_14_code
def yX1_makeNode : MethodName := ⟨RX1, "makeNode", "(LShapeForms$Heap;III)I"⟩
abbrev cX1_getLink : ByteArray := prog_3_method_15_code
def yX1_getLink : MethodName := ⟨RX1, "getLink", "(LShapeForms$Heap;IIII)I"⟩
abbrev cX1_putLink : ByteArray := prog_3_method_16_code
def yX1_putLink : MethodName := ⟨RX1, "putLink", "(LShapeForms$Heap;IIII)I"⟩
abbrev cX1_branchIfLess : ByteArray := prog_3_method_17_code
def yX1_branchIfLess : MethodName := ⟨RX1, "branchIfLess", "(LShapeForms$Heap;IIII)I"⟩
abbrev cX1_changeKey : ByteArray := prog_3_method_18_code
def yX1_changeKey : MethodName := ⟨RX1, "changeKey", "(LShapeForms$Heap;III)I"⟩
def RX2 : String := "ShapeForms$Starts"
def TX2 : u_T := fun k => match k with
  | _ => ("ShapeForms$Starts", "waiting", "[I", true)
def tyX2 : Nat → FieldType := fun k => match k with
  | _ => .array .int
abbrev wsX20 : List Cond := u_ws RX2 TX2 1
theorem nmX2 : ∀ a, a < 1 → ∀ b, b < 1 → a ≠ b → (TX2 a).2.1 ≠ (TX2 b).2.1 := by decide +kernel
theorem tyX2_ok : ∀ k, k < 1 → parseFieldDescriptor (TX2 k).2.2.1 = some (tyX2 k) := by decide +kernel
abbrev cX2_init : ByteArray := prog_4_method_1_code
def yX2_init : MethodName := ⟨RX2, "<init>", "()V"⟩
abbrev cX2_leastSize : ByteArray := prog_4_method_2_code
def yX2_leastSize : MethodName := ⟨RX2, "leastSize", "(I)I"⟩
abbrev cX2_rows : ByteArray := prog_4_method_3_code
def yX2_rows : MethodName := ⟨RX2, "rows", "(II)I"⟩
abbrev cX2_build : ByteArray := prog_4_method_4_code
def yX2_build : MethodName := ⟨RX2, "build", "(LShapeForms$Heap;IIII)Z"⟩
abbrev cX2_buildChain : ByteArray := prog_4_method_5_code
def yX2_buildChain : MethodName := ⟨RX2, "buildChain", "(LShapeForms$Heap;III)Z"⟩
abbrev cX2_linkChain : ByteArray := prog_4_method_6_code
def yX2_linkChain : MethodName := ⟨RX2, "linkChain", "(LShapeForms$Heap;II)V"⟩
abbrev cX2_buildTree : ByteArray := prog_4_method_7_code
def yX2_buildTree : MethodName := ⟨RX2, "buildTree", "(LShapeForms$Heap;II)Z"⟩
abbrev cX2_linksOf : ByteArray := prog_4_method_8_code
def yX2_linksOf : MethodName := ⟨RX2, "linksOf", "(III)I"⟩
abbrev cX2_leaveWaiting : ByteArray := prog_4_method_9_code
def yX2_leaveWaiting : MethodName := ⟨RX2, "leaveWaiting", "(III)I"⟩
abbrev cX2_pushWaiting : ByteArray := prog_4_method_10_code
def yX2_pushWaiting : MethodName := ⟨RX2, "pushWaiting", "(II)I"⟩
def RX3 : String := "ShapeForms"
def TX3 : u_T := fun k => match k with
  | 0 => ("ShapeForms", "program", "LShapeForms$Program;", true)
  | 1 => ("ShapeForms", "heap", "LShapeForms$Heap;", true)
  | 2 => ("ShapeForms", "starts", "LShapeForms$Starts;", true)
  | 3 => ("ShapeForms", "begun", "LShapeForms$Heap;", true)
  | 4 => ("ShapeForms", "tried", "LShapeForms$Heap;", true)
  | _ => ("ShapeForms", "broken", "I", false)
def tyX3 : Nat → FieldType := fun k => match k with
  | 0 => .object "ShapeForms$Program"
  | 1 => .object "ShapeForms$Heap"
  | 2 => .object "ShapeForms$Starts"
  | 3 => .object "ShapeForms$Heap"
  | 4 => .object "ShapeForms$Heap"
  | _ => .int
abbrev wsX30 : List Cond := u_ws RX3 TX3 6
theorem nmX3 : ∀ a, a < 6 → ∀ b, b < 6 → a ≠ b → (TX3 a).2.1 ≠ (TX3 b).2.1 := by decide +kernel
theorem tyX3_ok : ∀ k, k < 6 → parseFieldDescriptor (TX3 k).2.2.1 = some (tyX3 k) := by decide +kernel
abbrev cX3_init : ByteArray := prog_1_method_1_code
def yX3_init : MethodName := ⟨RX3, "<init>", "()V"⟩
abbrev cX3_op : ByteArray := prog_1_method_2_code
def yX3_op : MethodName := ⟨RX3, "op", "(IIII)I"⟩
abbrev cX3_clear : ByteArray := prog_1_method_3_code
def yX3_clear : MethodName := ⟨RX3, "clear", "()I"⟩
abbrev cX3_empty : ByteArray := prog_1_method_4_code
def yX3_empty : MethodName := ⟨RX3, "empty", "()I"⟩
abbrev cX3_node : ByteArray := prog_1_method_5_code
def yX3_node : MethodName := ⟨RX3, "node", "(I)I"⟩
abbrev cX3_link : ByteArray := prog_1_method_6_code
def yX3_link : MethodName := ⟨RX3, "link", "(III)I"⟩
abbrev cX3_hold : ByteArray := prog_1_method_7_code
def yX3_hold : MethodName := ⟨RX3, "hold", "(II)I"⟩
abbrev cX3_run : ByteArray := prog_1_method_8_code
def yX3_run : MethodName := ⟨RX3, "run", "()I"⟩
abbrev cX3_told : ByteArray := prog_1_method_9_code
def yX3_told : MethodName := ⟨RX3, "told", "(I)I"⟩
abbrev cX3_held : ByteArray := prog_1_method_10_code
def yX3_held : MethodName := ⟨RX3, "held", "(I)I"⟩
abbrev cX3_of : ByteArray := prog_1_method_11_code
def yX3_of : MethodName := ⟨RX3, "of", "(II)I"⟩
abbrev cX3_form : ByteArray := prog_1_method_12_code
def yX3_form : MethodName := ⟨RX3, "form", "(II)I"⟩
abbrev cX3_size : ByteArray := prog_1_method_13_code
def yX3_size : MethodName := ⟨RX3, "size", "(IZ)I"⟩
abbrev cX3_claim : ByteArray := prog_1_method_14_code
def yX3_claim : MethodName := ⟨RX3, "claim", "(IIIIIZ)I"⟩
abbrev cX3_why : ByteArray := prog_1_method_15_code
def yX3_why : MethodName := ⟨RX3, "why", "()I"⟩
abbrev cX3_count : ByteArray := prog_1_method_16_code
def yX3_count : MethodName := ⟨RX3, "count", "(I)I"⟩
abbrev cX3_tryStart : ByteArray := prog_1_method_17_code
def yX3_tryStart : MethodName := ⟨RX3, "tryStart", "(IIZ)I"⟩
abbrev cX3_isVariable : ByteArray := prog_1_method_18_code
def yX3_isVariable : MethodName := ⟨RX3, "isVariable", "(I)Z"⟩
abbrev cX3_isLink : ByteArray := prog_1_method_19_code
def yX3_isLink : MethodName := ⟨RX3, "isLink", "(I)Z"⟩
abbrev cX3_isForm : ByteArray := prog_1_method_20_code
def yX3_isForm : MethodName := ⟨RX3, "isForm", "(I)Z"⟩
abbrev cX3_isStartForm : ByteArray := prog_1_method_21_code
def yX3_isStartForm : MethodName := ⟨RX3, "isStartForm", "(I)Z"⟩
def RX4 : String := "ShapeFormsModel"
def TX4 : u_T := fun k => match k with
  | 0 => ("ShapeFormsModel", "nodes", "I", false)
  | 1 => ("ShapeFormsModel", "links", "[I", true)
  | 2 => ("ShapeFormsModel", "keys", "[I", true)
  | 3 => ("ShapeFormsModel", "held", "[I", true)
  | 4 => ("ShapeFormsModel", "ops", "I", false)
  | 5 => ("ShapeFormsModel", "op", "[I", true)
  | 6 => ("ShapeFormsModel", "as", "[I", true)
  | 7 => ("ShapeFormsModel", "bs", "[I", true)
  | 8 => ("ShapeFormsModel", "cs", "[I", true)
  | 9 => ("ShapeFormsModel", "done", "I", false)
  | 10 => ("ShapeFormsModel", "last", "I", false)
  | 11 => ("ShapeFormsModel", "why", "I", false)
  | 12 => ("ShapeFormsModel", "come", "[Z", true)
  | 13 => ("ShapeFormsModel", "row", "[I", true)
  | 14 => ("ShapeFormsModel", "rowMany", "I", false)
  | 15 => ("ShapeFormsModel", "trees", "[I", true)
  | 16 => ("ShapeFormsModel", "treeMany", "I", false)
  | 17 => ("ShapeFormsModel", "waits", "[I", true)
  | 18 => ("ShapeFormsModel", "startKeys", "[I", true)
  | 19 => ("ShapeFormsModel", "keptNodes", "I", false)
  | 20 => ("ShapeFormsModel", "keptLinks", "[I", true)
  | 21 => ("ShapeFormsModel", "keptKeys", "[I", true)
  | _ => ("ShapeFormsModel", "keptHeld", "[I", true)
def tyX4 : Nat → FieldType := fun k => match k with
  | 0 => .int
  | 1 => .array .int
  | 2 => .array .int
  | 3 => .array .int
  | 4 => .int
  | 5 => .array .int
  | 6 => .array .int
  | 7 => .array .int
  | 8 => .array .int
  | 9 => .int
  | 10 => .int
  | 11 => .int
  | 12 => .array .boolean
  | 13 => .array .int
  | 14 => .int
  | 15 => .array .int
  | 16 => .int
  | 17 => .array .int
  | 18 => .array .int
  | 19 => .int
  | 20 => .array .int
  | 21 => .array .int
  | _ => .array .int
abbrev wsX40 : List Cond := u_ws RX4 TX4 23
theorem nmX4 : ∀ a, a < 23 → ∀ b, b < 23 → a ≠ b → (TX4 a).2.1 ≠ (TX4 b).2.1 := by decide +kernel
theorem tyX4_ok : ∀ k, k < 23 → parseFieldDescriptor (TX4 k).2.2.1 = some (tyX4 k) := by decide +kernel
abbrev cX4_init : ByteArray := prog_6_method_1_code
def yX4_init : MethodName := ⟨RX4, "<init>", "()V"⟩
abbrev cX4_isIn : ByteArray := prog_6_method_2_code
def yX4_isIn : MethodName := ⟨RX4, "isIn", "(III)Z"⟩
abbrev cX4_isNode : ByteArray := prog_6_method_3_code
def yX4_isNode : MethodName := ⟨RX4, "isNode", "(I)Z"⟩
abbrev cX4_isVariable : ByteArray := prog_6_method_4_code
def yX4_isVariable : MethodName := ⟨RX4, "isVariable", "(I)Z"⟩
abbrev cX4_isRight : ByteArray := prog_6_method_5_code
def yX4_isRight : MethodName := ⟨RX4, "isRight", "(IIII)Z"⟩
abbrev cX4_op : ByteArray := prog_6_method_6_code
def yX4_op : MethodName := ⟨RX4, "op", "(IIII)I"⟩
abbrev cX4_clear : ByteArray := prog_6_method_7_code
def yX4_clear : MethodName := ⟨RX4, "clear", "()I"⟩
abbrev cX4_empty : ByteArray := prog_6_method_8_code
def yX4_empty : MethodName := ⟨RX4, "empty", "()I"⟩
abbrev cX4_node : ByteArray := prog_6_method_9_code
def yX4_node : MethodName := ⟨RX4, "node", "(I)I"⟩
abbrev cX4_link : ByteArray := prog_6_method_10_code
def yX4_link : MethodName := ⟨RX4, "link", "(III)I"⟩
abbrev cX4_hold : ByteArray := prog_6_method_11_code
def yX4_hold : MethodName := ⟨RX4, "hold", "(II)I"⟩
abbrev cX4_run : ByteArray := prog_6_method_12_code
def yX4_run : MethodName := ⟨RX4, "run", "()I"⟩
abbrev cX4_told : ByteArray := prog_6_method_13_code
def yX4_told : MethodName := ⟨RX4, "told", "(I)I"⟩
abbrev cX4_held : ByteArray := prog_6_method_14_code
def yX4_held : MethodName := ⟨RX4, "held", "(I)I"⟩
abbrev cX4_of : ByteArray := prog_6_method_15_code
def yX4_of : MethodName := ⟨RX4, "of", "(II)I"⟩
abbrev cX4_gather : ByteArray := prog_6_method_16_code
def yX4_gather : MethodName := ⟨RX4, "gather", "(IZ)V"⟩
abbrev cX4_ends : ByteArray := prog_6_method_17_code
def yX4_ends : MethodName := ⟨RX4, "ends", "(I)Z"⟩
abbrev cX4_isDoubly : ByteArray := prog_6_method_18_code
def yX4_isDoubly : MethodName := ⟨RX4, "isDoubly", "(I)Z"⟩
abbrev cX4_isTree : ByteArray := prog_6_method_19_code
def yX4_isTree : MethodName := ⟨RX4, "isTree", "(I)Z"⟩
abbrev cX4_isSorted : ByteArray := prog_6_method_20_code
def yX4_isSorted : MethodName := ⟨RX4, "isSorted", "(I)Z"⟩
abbrev cX4_has : ByteArray := prog_6_method_21_code
def yX4_has : MethodName := ⟨RX4, "has", "(II)Z"⟩
abbrev cX4_form : ByteArray := prog_6_method_22_code
def yX4_form : MethodName := ⟨RX4, "form", "(II)I"⟩
abbrev cX4_size : ByteArray := prog_6_method_23_code
def yX4_size : MethodName := ⟨RX4, "size", "(IZ)I"⟩
abbrev cX4_isTreeOf : ByteArray := prog_6_method_24_code
def yX4_isTreeOf : MethodName := ⟨RX4, "isTreeOf", "(III)Z"⟩
abbrev cX4_isAhead : ByteArray := prog_6_method_25_code
def yX4_isAhead : MethodName := ⟨RX4, "isAhead", "(III)Z"⟩
abbrev cX4_makesTrees : ByteArray := prog_6_method_26_code
def yX4_makesTrees : MethodName := ⟨RX4, "makesTrees", "(I)V"⟩
abbrev cX4_starts : ByteArray := prog_6_method_27_code
def yX4_starts : MethodName := ⟨RX4, "starts", "(IIII)Z"⟩
abbrev cX4_keysOf : ByteArray := prog_6_method_28_code
def yX4_keysOf : MethodName := ⟨RX4, "keysOf", "(III)Z"⟩
abbrev cX4_keeps : ByteArray := prog_6_method_29_code
def yX4_keeps : MethodName := ⟨RX4, "keeps", "()V"⟩
abbrev cX4_comesBack : ByteArray := prog_6_method_30_code
def yX4_comesBack : MethodName := ⟨RX4, "comesBack", "()V"⟩
abbrev cX4_areKept : ByteArray := prog_6_method_31_code
def yX4_areKept : MethodName := ⟨RX4, "areKept", "(IIII)Z"⟩
abbrev cX4_claim : ByteArray := prog_6_method_32_code
def yX4_claim : MethodName := ⟨RX4, "claim", "(IIIIIZ)I"⟩
abbrev cX4_why : ByteArray := prog_6_method_33_code
def yX4_why : MethodName := ⟨RX4, "why", "()I"⟩
abbrev cX4_count : ByteArray := prog_6_method_34_code
def yX4_count : MethodName := ⟨RX4, "count", "(I)I"⟩
def RJ10 : String := "java/lang/System"
def RL : String := "ShapeFormsLaw"
abbrev cL_law : ByteArray := code
def yL_law : MethodName := ⟨RL, "law", "([I)Z"⟩
abbrev vwCl : List vw_C := [(RX0, TX0, 6), (RX1, TX1, 7), (RX2, TX2, 1), (RX3, TX3, 6), (RX4, TX4, 23)]
theorem za_iX0 : ∀ w ∈ wsX00, w ∈ lw_tbl := by decide +kernel
theorem za_iX1 : ∀ w ∈ wsX10, w ∈ lw_tbl := by decide +kernel
theorem za_iX2 : ∀ w ∈ wsX20, w ∈ lw_tbl := by decide +kernel
theorem za_iX3 : ∀ w ∈ wsX30, w ∈ lw_tbl := by decide +kernel
theorem za_iX4 : ∀ w ∈ wsX40, w ∈ lw_tbl := by decide +kernel
