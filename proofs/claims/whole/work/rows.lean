section
-- ===== PART A: goes FIRST, ahead of the names: the tables' words, and 'selects' of the private methods out of them =====
/-- a private method of a class that the tables say can be made, by its rows of tables_1 -/
def lw_okq (q : MethodName × Nat) : Prop := (q.1.cls ≠ "java/lang/invoke/MethodHandle" ∧ q.1.cls ≠ "java/lang/invoke/VarHandle") ∧ Cond.instantiable q.1.cls q.2 ∈ tables_1 ∧ Cond.privateMethod q.1 ∈ tables_1 ∧ Cond.instanceMethod q.1 ∈ tables_1
theorem lw_p0 : lw_okq (⟨"ShapeForms$Program", "isInside", "(I)Z"⟩, 7) := ⟨⟨by decide +kernel, by decide +kernel⟩, List.mem_of_getElem? (i := 16) (by decide +kernel), List.mem_of_getElem? (i := 186) (by decide +kernel), List.mem_of_getElem? (i := 187) (by decide +kernel)⟩
theorem lw_p1 : lw_okq (⟨"ShapeForms$Program", "step", "(ILShapeForms$Heap;)I"⟩, 7) := ⟨⟨by decide +kernel, by decide +kernel⟩, List.mem_of_getElem? (i := 16) (by decide +kernel), List.mem_of_getElem? (i := 190) (by decide +kernel), List.mem_of_getElem? (i := 191) (by decide +kernel)⟩
theorem lw_p2 : lw_okq (⟨"ShapeForms$Heap", "clearMarks", "()V"⟩, 6) := ⟨⟨by decide +kernel, by decide +kernel⟩, List.mem_of_getElem? (i := 46) (by decide +kernel), List.mem_of_getElem? (i := 272) (by decide +kernel), List.mem_of_getElem? (i := 273) (by decide +kernel)⟩
theorem lw_p3 : lw_okq (⟨"ShapeForms$Heap", "mark", "(II)I"⟩, 6) := ⟨⟨by decide +kernel, by decide +kernel⟩, List.mem_of_getElem? (i := 46) (by decide +kernel), List.mem_of_getElem? (i := 277) (by decide +kernel), List.mem_of_getElem? (i := 278) (by decide +kernel)⟩
theorem lw_p4 : lw_okq (⟨"ShapeForms$Heap", "isList", "(I)Z"⟩, 6) := ⟨⟨by decide +kernel, by decide +kernel⟩, List.mem_of_getElem? (i := 46) (by decide +kernel), List.mem_of_getElem? (i := 282) (by decide +kernel), List.mem_of_getElem? (i := 283) (by decide +kernel)⟩
theorem lw_p5 : lw_okq (⟨"ShapeForms$Heap", "behindLast", "(I)I"⟩, 6) := ⟨⟨by decide +kernel, by decide +kernel⟩, List.mem_of_getElem? (i := 46) (by decide +kernel), List.mem_of_getElem? (i := 286) (by decide +kernel), List.mem_of_getElem? (i := 287) (by decide +kernel)⟩
theorem lw_p6 : lw_okq (⟨"ShapeForms$Heap", "linksBack", "(I)Z"⟩, 6) := ⟨⟨by decide +kernel, by decide +kernel⟩, List.mem_of_getElem? (i := 46) (by decide +kernel), List.mem_of_getElem? (i := 290) (by decide +kernel), List.mem_of_getElem? (i := 291) (by decide +kernel)⟩
theorem lw_p7 : lw_okq (⟨"ShapeForms$Heap", "isRing", "(I)Z"⟩, 6) := ⟨⟨by decide +kernel, by decide +kernel⟩, List.mem_of_getElem? (i := 46) (by decide +kernel), List.mem_of_getElem? (i := 294) (by decide +kernel), List.mem_of_getElem? (i := 295) (by decide +kernel)⟩
theorem lw_p8 : lw_okq (⟨"ShapeForms$Heap", "isTree", "(I)Z"⟩, 6) := ⟨⟨by decide +kernel, by decide +kernel⟩, List.mem_of_getElem? (i := 46) (by decide +kernel), List.mem_of_getElem? (i := 298) (by decide +kernel), List.mem_of_getElem? (i := 299) (by decide +kernel)⟩
theorem lw_p9 : lw_okq (⟨"ShapeForms$Heap", "neverFalls", "(I)Z"⟩, 6) := ⟨⟨by decide +kernel, by decide +kernel⟩, List.mem_of_getElem? (i := 46) (by decide +kernel), List.mem_of_getElem? (i := 302) (by decide +kernel), List.mem_of_getElem? (i := 303) (by decide +kernel)⟩
theorem lw_p10 : lw_okq (⟨"ShapeForms$Starts", "buildTree", "(LShapeForms$Heap;II)Z"⟩, 1) := ⟨⟨by decide +kernel, by decide +kernel⟩, List.mem_of_getElem? (i := 77) (by decide +kernel), List.mem_of_getElem? (i := 330) (by decide +kernel), List.mem_of_getElem? (i := 331) (by decide +kernel)⟩
theorem lw_p11 : lw_okq (⟨"ShapeForms$Starts", "leaveWaiting", "(III)I"⟩, 1) := ⟨⟨by decide +kernel, by decide +kernel⟩, List.mem_of_getElem? (i := 77) (by decide +kernel), List.mem_of_getElem? (i := 339) (by decide +kernel), List.mem_of_getElem? (i := 340) (by decide +kernel)⟩
theorem lw_p12 : lw_okq (⟨"ShapeForms$Starts", "pushWaiting", "(II)I"⟩, 1) := ⟨⟨by decide +kernel, by decide +kernel⟩, List.mem_of_getElem? (i := 77) (by decide +kernel), List.mem_of_getElem? (i := 343) (by decide +kernel), List.mem_of_getElem? (i := 344) (by decide +kernel)⟩
theorem lw_p13 : lw_okq (⟨"ShapeForms", "tryStart", "(IIZ)I"⟩, 6) := ⟨⟨by decide +kernel, by decide +kernel⟩, List.mem_of_getElem? (i := 8) (by decide +kernel), List.mem_of_getElem? (i := 356) (by decide +kernel), List.mem_of_getElem? (i := 357) (by decide +kernel)⟩
theorem lw_p14 : lw_okq (⟨"ShapeForms$Heap", "reachedWith", "(II)I"⟩, 6) := ⟨⟨by decide +kernel, by decide +kernel⟩, List.mem_of_getElem? (i := 46) (by decide +kernel), List.mem_of_getElem? (i := 371) (by decide +kernel), List.mem_of_getElem? (i := 372) (by decide +kernel)⟩
theorem lw_p15 : lw_okq (⟨"ShapeForms$Heap", "nodesWith", "(I)I"⟩, 6) := ⟨⟨by decide +kernel, by decide +kernel⟩, List.mem_of_getElem? (i := 46) (by decide +kernel), List.mem_of_getElem? (i := 375) (by decide +kernel), List.mem_of_getElem? (i := 376) (by decide +kernel)⟩
def lw_privs_1 : List (MethodName × Nat) := [(⟨"ShapeForms$Program", "isInside", "(I)Z"⟩, 7), (⟨"ShapeForms$Program", "step", "(ILShapeForms$Heap;)I"⟩, 7), (⟨"ShapeForms$Heap", "clearMarks", "()V"⟩, 6), (⟨"ShapeForms$Heap", "mark", "(II)I"⟩, 6), (⟨"ShapeForms$Heap", "isList", "(I)Z"⟩, 6), (⟨"ShapeForms$Heap", "behindLast", "(I)I"⟩, 6), (⟨"ShapeForms$Heap", "linksBack", "(I)Z"⟩, 6), (⟨"ShapeForms$Heap", "isRing", "(I)Z"⟩, 6), (⟨"ShapeForms$Heap", "isTree", "(I)Z"⟩, 6), (⟨"ShapeForms$Heap", "neverFalls", "(I)Z"⟩, 6), (⟨"ShapeForms$Starts", "buildTree", "(LShapeForms$Heap;II)Z"⟩, 1), (⟨"ShapeForms$Starts", "leaveWaiting", "(III)I"⟩, 1), (⟨"ShapeForms$Starts", "pushWaiting", "(II)I"⟩, 1), (⟨"ShapeForms", "tryStart", "(IIZ)I"⟩, 6), (⟨"ShapeForms$Heap", "reachedWith", "(II)I"⟩, 6), (⟨"ShapeForms$Heap", "nodesWith", "(I)I"⟩, 6)]
theorem lw_r1 : ∀ q ∈ lw_privs_1, lw_okq q := List.forall_mem_cons.mpr ⟨lw_p0, List.forall_mem_cons.mpr ⟨lw_p1, List.forall_mem_cons.mpr ⟨lw_p2, List.forall_mem_cons.mpr ⟨lw_p3, List.forall_mem_cons.mpr ⟨lw_p4, List.forall_mem_cons.mpr ⟨lw_p5, List.forall_mem_cons.mpr ⟨lw_p6, List.forall_mem_cons.mpr ⟨lw_p7, List.forall_mem_cons.mpr ⟨lw_p8, List.forall_mem_cons.mpr ⟨lw_p9, List.forall_mem_cons.mpr ⟨lw_p10, List.forall_mem_cons.mpr ⟨lw_p11, List.forall_mem_cons.mpr ⟨lw_p12, List.forall_mem_cons.mpr ⟨lw_p13, List.forall_mem_cons.mpr ⟨lw_p14, List.forall_mem_cons.mpr ⟨lw_p15, fun _ h => absurd h List.not_mem_nil⟩⟩⟩⟩⟩⟩⟩⟩⟩⟩⟩⟩⟩⟩⟩⟩
theorem lw_p16 : lw_okq (⟨"ShapeFormsModel", "isNode", "(I)Z"⟩, 23) := ⟨⟨by decide +kernel, by decide +kernel⟩, List.mem_of_getElem? (i := 395) (by decide +kernel), List.mem_of_getElem? (i := 501) (by decide +kernel), List.mem_of_getElem? (i := 502) (by decide +kernel)⟩
theorem lw_p17 : lw_okq (⟨"ShapeFormsModel", "has", "(II)Z"⟩, 23) := ⟨⟨by decide +kernel, by decide +kernel⟩, List.mem_of_getElem? (i := 395) (by decide +kernel), List.mem_of_getElem? (i := 530) (by decide +kernel), List.mem_of_getElem? (i := 531) (by decide +kernel)⟩
theorem lw_p18 : lw_okq (⟨"ShapeFormsModel", "ends", "(I)Z"⟩, 23) := ⟨⟨by decide +kernel, by decide +kernel⟩, List.mem_of_getElem? (i := 395) (by decide +kernel), List.mem_of_getElem? (i := 534) (by decide +kernel), List.mem_of_getElem? (i := 535) (by decide +kernel)⟩
theorem lw_p19 : lw_okq (⟨"ShapeFormsModel", "gather", "(IZ)V"⟩, 23) := ⟨⟨by decide +kernel, by decide +kernel⟩, List.mem_of_getElem? (i := 395) (by decide +kernel), List.mem_of_getElem? (i := 538) (by decide +kernel), List.mem_of_getElem? (i := 539) (by decide +kernel)⟩
theorem lw_p20 : lw_okq (⟨"ShapeFormsModel", "isDoubly", "(I)Z"⟩, 23) := ⟨⟨by decide +kernel, by decide +kernel⟩, List.mem_of_getElem? (i := 395) (by decide +kernel), List.mem_of_getElem? (i := 542) (by decide +kernel), List.mem_of_getElem? (i := 543) (by decide +kernel)⟩
theorem lw_p21 : lw_okq (⟨"ShapeFormsModel", "isTree", "(I)Z"⟩, 23) := ⟨⟨by decide +kernel, by decide +kernel⟩, List.mem_of_getElem? (i := 395) (by decide +kernel), List.mem_of_getElem? (i := 546) (by decide +kernel), List.mem_of_getElem? (i := 547) (by decide +kernel)⟩
theorem lw_p22 : lw_okq (⟨"ShapeFormsModel", "isSorted", "(I)Z"⟩, 23) := ⟨⟨by decide +kernel, by decide +kernel⟩, List.mem_of_getElem? (i := 395) (by decide +kernel), List.mem_of_getElem? (i := 550) (by decide +kernel), List.mem_of_getElem? (i := 551) (by decide +kernel)⟩
theorem lw_p23 : lw_okq (⟨"ShapeFormsModel", "keeps", "()V"⟩, 23) := ⟨⟨by decide +kernel, by decide +kernel⟩, List.mem_of_getElem? (i := 395) (by decide +kernel), List.mem_of_getElem? (i := 562) (by decide +kernel), List.mem_of_getElem? (i := 563) (by decide +kernel)⟩
theorem lw_p24 : lw_okq (⟨"ShapeFormsModel", "makesTrees", "(I)V"⟩, 23) := ⟨⟨by decide +kernel, by decide +kernel⟩, List.mem_of_getElem? (i := 395) (by decide +kernel), List.mem_of_getElem? (i := 566) (by decide +kernel), List.mem_of_getElem? (i := 567) (by decide +kernel)⟩
theorem lw_p25 : lw_okq (⟨"ShapeFormsModel", "isTreeOf", "(III)Z"⟩, 23) := ⟨⟨by decide +kernel, by decide +kernel⟩, List.mem_of_getElem? (i := 395) (by decide +kernel), List.mem_of_getElem? (i := 570) (by decide +kernel), List.mem_of_getElem? (i := 571) (by decide +kernel)⟩
theorem lw_p26 : lw_okq (⟨"ShapeFormsModel", "isAhead", "(III)Z"⟩, 23) := ⟨⟨by decide +kernel, by decide +kernel⟩, List.mem_of_getElem? (i := 395) (by decide +kernel), List.mem_of_getElem? (i := 574) (by decide +kernel), List.mem_of_getElem? (i := 575) (by decide +kernel)⟩
theorem lw_p27 : lw_okq (⟨"ShapeFormsModel", "starts", "(IIII)Z"⟩, 23) := ⟨⟨by decide +kernel, by decide +kernel⟩, List.mem_of_getElem? (i := 395) (by decide +kernel), List.mem_of_getElem? (i := 578) (by decide +kernel), List.mem_of_getElem? (i := 579) (by decide +kernel)⟩
theorem lw_p28 : lw_okq (⟨"ShapeFormsModel", "keysOf", "(III)Z"⟩, 23) := ⟨⟨by decide +kernel, by decide +kernel⟩, List.mem_of_getElem? (i := 395) (by decide +kernel), List.mem_of_getElem? (i := 582) (by decide +kernel), List.mem_of_getElem? (i := 583) (by decide +kernel)⟩
theorem lw_p29 : lw_okq (⟨"ShapeFormsModel", "areKept", "(IIII)Z"⟩, 23) := ⟨⟨by decide +kernel, by decide +kernel⟩, List.mem_of_getElem? (i := 395) (by decide +kernel), List.mem_of_getElem? (i := 588) (by decide +kernel), List.mem_of_getElem? (i := 589) (by decide +kernel)⟩
theorem lw_p30 : lw_okq (⟨"ShapeFormsModel", "comesBack", "()V"⟩, 23) := ⟨⟨by decide +kernel, by decide +kernel⟩, List.mem_of_getElem? (i := 395) (by decide +kernel), List.mem_of_getElem? (i := 592) (by decide +kernel), List.mem_of_getElem? (i := 593) (by decide +kernel)⟩
def lw_privs_2 : List (MethodName × Nat) := [(⟨"ShapeFormsModel", "isNode", "(I)Z"⟩, 23), (⟨"ShapeFormsModel", "has", "(II)Z"⟩, 23), (⟨"ShapeFormsModel", "ends", "(I)Z"⟩, 23), (⟨"ShapeFormsModel", "gather", "(IZ)V"⟩, 23), (⟨"ShapeFormsModel", "isDoubly", "(I)Z"⟩, 23), (⟨"ShapeFormsModel", "isTree", "(I)Z"⟩, 23), (⟨"ShapeFormsModel", "isSorted", "(I)Z"⟩, 23), (⟨"ShapeFormsModel", "keeps", "()V"⟩, 23), (⟨"ShapeFormsModel", "makesTrees", "(I)V"⟩, 23), (⟨"ShapeFormsModel", "isTreeOf", "(III)Z"⟩, 23), (⟨"ShapeFormsModel", "isAhead", "(III)Z"⟩, 23), (⟨"ShapeFormsModel", "starts", "(IIII)Z"⟩, 23), (⟨"ShapeFormsModel", "keysOf", "(III)Z"⟩, 23), (⟨"ShapeFormsModel", "areKept", "(IIII)Z"⟩, 23), (⟨"ShapeFormsModel", "comesBack", "()V"⟩, 23)]
theorem lw_r2 : ∀ q ∈ lw_privs_2, lw_okq q := List.forall_mem_cons.mpr ⟨lw_p16, List.forall_mem_cons.mpr ⟨lw_p17, List.forall_mem_cons.mpr ⟨lw_p18, List.forall_mem_cons.mpr ⟨lw_p19, List.forall_mem_cons.mpr ⟨lw_p20, List.forall_mem_cons.mpr ⟨lw_p21, List.forall_mem_cons.mpr ⟨lw_p22, List.forall_mem_cons.mpr ⟨lw_p23, List.forall_mem_cons.mpr ⟨lw_p24, List.forall_mem_cons.mpr ⟨lw_p25, List.forall_mem_cons.mpr ⟨lw_p26, List.forall_mem_cons.mpr ⟨lw_p27, List.forall_mem_cons.mpr ⟨lw_p28, List.forall_mem_cons.mpr ⟨lw_p29, List.forall_mem_cons.mpr ⟨lw_p30, fun _ h => absurd h List.not_mem_nil⟩⟩⟩⟩⟩⟩⟩⟩⟩⟩⟩⟩⟩⟩⟩
def lw_privs : List (MethodName × Nat) := lw_privs_1 ++ (lw_privs_2)
def lw_tbl : List Cond := k2_sels lw_privs ++ tables_1
theorem lw_privs_ok : ∀ q ∈ lw_privs, lw_okq q := by
  show ∀ q ∈ lw_privs_1 ++ (lw_privs_2), lw_okq q
  exact List.forall_mem_append.mpr ⟨lw_r1, lw_r2⟩
theorem goodIn_r {big : List Cond} (ws : List Cond) (ps : List Nat) (hp : ws = ps.filterMap (fun i => big[i]?)) (h : ws.all goodWord = true) : GoodIn big ws := by
  intro w hw
  have h1 := List.all_eq_true.mp h w hw
  rw [hp] at hw
  obtain ⟨i, -, hi⟩ := List.mem_filterMap.mp hw
  have hm : w ∈ big := by first | exact List.mem_of_getElem? hi | exact List.getElem?_mem hi
  exact ⟨hm, good_of_word h1⟩
theorem goodIn_app {big a b : List Cond} (ha : GoodIn big a) (hb : GoodIn big b) : GoodIn big (a ++ b) := fun w h => (List.mem_append.mp h).elim (ha w) (hb w)
theorem goodIn_ca {big a b : List Cond} {c : Cond} (ha : GoodIn big (c :: a)) (hb : GoodIn big b) : GoodIn big (c :: (a ++ b)) := fun w h => (List.mem_cons.mp h).elim (fun e => ha w (List.mem_cons.mpr (Or.inl e))) (fun h => (List.mem_append.mp h).elim (fun h => ha w (List.mem_cons.mpr (Or.inr h))) (hb w))
theorem goodIn_sub {big ws : List Cond} (hm : ∀ w ∈ ws, w ∈ big) (h : ws.all goodWord = true) : GoodIn big ws := fun w hw => ⟨hm w hw, good_of_word (List.all_eq_true.mp h w hw)⟩
def RX0 : String := "ShapeForms$Heap"
def TX0 : u_T := fun k => match k with
  | 0 => ("ShapeForms$Heap", "keys", "[I", true)
  | 1 => ("ShapeForms$Heap", "targets", "[I", true)
  | 2 => ("ShapeForms$Heap", "variables", "[I", true)
  | 3 => ("ShapeForms$Heap", "nodes", "I", false)
  | 4 => ("ShapeForms$Heap", "reached", "[I", true)
  | _ => ("ShapeForms$Heap", "marked", "[Z", true)
def tyX0 : Nat → FieldType := fun k => match k with
  | 0 => .array .int
  | 1 => .array .int
  | 2 => .array .int
  | 3 => .int
  | 4 => .array .int
  | _ => .array .boolean
abbrev wsX00 : List Cond := u_ws RX0 TX0 6
theorem nmX0 : ∀ a, a < 6 → ∀ b, b < 6 → a ≠ b → (TX0 a).2.1 ≠ (TX0 b).2.1 := by decide +kernel
theorem tyX0_ok : ∀ k, k < 6 → parseFieldDescriptor (TX0 k).2.2.1 = some (tyX0 k) := by decide +kernel
abbrev cX0_init : ByteArray := prog_2_method_1_code
def yX0_init : MethodName := ⟨RX0, "<init>", "()V"⟩
abbrev cX0_drop : ByteArray := prog_2_method_2_code
def yX0_drop : MethodName := ⟨RX0, "drop", "()I"⟩
abbrev cX0_become : ByteArray := prog_2_method_3_code
def yX0_become : MethodName := ⟨RX0, "become", "(LShapeForms$Heap;)V"⟩
abbrev cX0_nodes : ByteArray := prog_2_method_4_code
def yX0_nodes : MethodName := ⟨RX0, "nodes", "()I"⟩
abbrev cX0_isNode : ByteArray := prog_2_method_5_code
def yX0_isNode : MethodName := ⟨RX0, "isNode", "(I)Z"⟩
abbrev cX0_isNodeOrNone : ByteArray := prog_2_method_6_code
def yX0_isNodeOrNone : MethodName := ⟨RX0, "isNodeOrNone", "(I)Z"⟩
abbrev cX0_add : ByteArray := prog_2_method_7_code
def yX0_add : MethodName := ⟨RX0, "add", "(I)I"⟩
abbrev cX0_key : ByteArray := prog_2_method_8_code
def yX0_key : MethodName := ⟨RX0, "key", "(I)I"⟩
abbrev cX0_setKey : ByteArray := prog_2_method_9_code
def yX0_setKey : MethodName := ⟨RX0, "setKey", "(II)V"⟩
abbrev cX0_target : ByteArray := prog_2_method_10_code
def yX0_target : MethodName := ⟨RX0, "target", "(II)I"⟩
abbrev cX0_setTarget : ByteArray := prog_2_method_11_code
def yX0_setTarget : MethodName := ⟨RX0, "setTarget", "(III)V"⟩
abbrev cX0_variable : ByteArray := prog_2_method_12_code
def yX0_variable : MethodName := ⟨RX0, "variable", "(I)I"⟩
abbrev cX0_setVariable : ByteArray := prog_2_method_13_code
def yX0_setVariable : MethodName := ⟨RX0, "setVariable", "(II)V"⟩
abbrev cX0_reach : ByteArray := prog_2_method_14_code
def yX0_reach : MethodName := ⟨RX0, "reach", "(IZ)I"⟩
abbrev cX0_mark : ByteArray := prog_2_method_15_code
def yX0_mark : MethodName := ⟨RX0, "mark", "(II)I"⟩
abbrev cX0_clearMarks : ByteArray := prog_2_method_16_code
def yX0_clearMarks : MethodName := ⟨RX0, "clearMarks", "()V"⟩
abbrev cX0_hasForm : ByteArray := prog_2_method_17_code
def yX0_hasForm : MethodName := ⟨RX0, "hasForm", "(II)Z"⟩
abbrev cX0_behindLast : ByteArray := prog_2_method_18_code
def yX0_behindLast : MethodName := ⟨RX0, "behindLast", "(I)I"⟩
abbrev cX0_isList : ByteArray := prog_2_method_19_code
def yX0_isList : MethodName := ⟨RX0, "isList", "(I)Z"⟩
abbrev cX0_isRing : ByteArray := prog_2_method_20_code
def yX0_isRing : MethodName := ⟨RX0, "isRing", "(I)Z"⟩
abbrev cX0_linksBack : ByteArray := prog_2_method_21_code
def yX0_linksBack : MethodName := ⟨RX0, "linksBack", "(I)Z"⟩
abbrev cX0_neverFalls : ByteArray := prog_2_method_22_code
def yX0_neverFalls : MethodName := ⟨RX0, "neverFalls", "(I)Z"⟩
abbrev cX0_isTree : ByteArray := prog_2_method_23_code
def yX0_isTree : MethodName := ⟨RX0, "isTree", "(I)Z"⟩
abbrev cX0_keepsKeys : ByteArray := prog_2_method_24_code
def yX0_keepsKeys : MethodName := ⟨RX0, "keepsKeys", "(IZLShapeForms$Heap;)Z"⟩
abbrev cX0_reachedWith : ByteArray := prog_2_method_25_code
def yX0_reachedWith : MethodName := ⟨RX0, "reachedWith", "(II)I"⟩
abbrev cX0_nodesWith : ByteArray := prog_2_method_26_code
def yX0_nodesWith : MethodName := ⟨RX0, "nodesWith", "(I)I"⟩
def RX1 : String := "ShapeForms$Program"
def TX1 : u_T := fun k => match k with
  | 0 => ("ShapeForms$Program", "ops", "[I", true)
  | 1 => ("ShapeForms$Program", "as", "[I", true)
  | 2 => ("ShapeForms$Program", "bs", "[I", true)
  | 3 => ("ShapeForms$Program", "cs", "[I", true)
  | 4 => ("ShapeForms$Program", "length", "I", false)
  | 5 => ("ShapeForms$Program", "done", "I", false)
  | _ => ("ShapeForms$Program", "last", "I", false)
def tyX1 : Nat → FieldType := fun k => match k with
  | 0 => .array .int
  | 1 => .array .int
  | 2 => .array .int
  | 3 => .array .int
  | 4 => .int
  | 5 => .int
  | _ => .int
abbrev wsX10 : List Cond := u_ws RX1 TX1 7
theorem nmX1 : ∀ a, a < 7 → ∀ b, b < 7 → a ≠ b → (TX1 a).2.1 ≠ (TX1 b).2.1 := by decide +kernel
theorem tyX1_ok : ∀ k, k < 7 → parseFieldDescriptor (TX1 k).2.2.1 = some (tyX1 k) := by decide +kernel
abbrev cX1_init : ByteArray := prog_3_method_1_code
def yX1_init : MethodName := ⟨RX1, "<init>", "()V"⟩
abbrev cX1_isInstruction : ByteArray := prog_3_method_2_code
def yX1_isInstruction : MethodName := ⟨RX1, "isInstruction", "(IIII)Z"⟩
abbrev cX1_fits : ByteArray := prog_3_method_3_code
def yX1_fits : MethodName := ⟨RX1, "fits", "(II)Z"⟩
abbrev cX1_add : ByteArray := prog_3_method_4_code
def yX1_add : MethodName := ⟨RX1, "add", "(IIII)I"⟩
abbrev cX1_drop : ByteArray := prog_3_method_5_code
def yX1_drop : MethodName := ⟨RX1, "drop", "()I"⟩
abbrev cX1_length : ByteArray := prog_3_method_6_code
def yX1_length : MethodName := ⟨RX1, "length", "()I"⟩
abbrev cX1_stepsDone : ByteArray := prog_3_method_7_code
def yX1_stepsDone : MethodName := ⟨RX1, "stepsDone", "()I"⟩
abbrev cX1_lastStep : ByteArray := prog_3_method_8_code
def yX1_lastStep : MethodName := ⟨RX1, "lastStep", "()I"⟩
abbrev cX1_execute : ByteArray := prog_3_method_9_code
def yX1_execute : MethodName := ⟨RX1, "execute", "(LShapeForms$Heap;)I"⟩
abbrev cX1_isInside : ByteArray := prog_3_method_10_code
def yX1_isInside : MethodName := ⟨RX1, "isInside", "(I)Z"⟩
abbrev cX1_stop : ByteArray := prog_3_method_11_code
def yX1_stop : MethodName := ⟨RX1, "stop", "(I)I"⟩
abbrev cX1_outcomeOf : ByteArray := prog_3_method_12_code
def yX1_outcomeOf : MethodName := ⟨RX1, "outcomeOf", "(I)I"⟩
abbrev cX1_step : ByteArray := prog_3_method_13_code
def yX1_step : MethodName := ⟨RX1, "step", "(ILShapeForms$Heap;)I"⟩
abbrev cX1_makeNode : ByteArray := prog_3_method_14_code
def yX1_makeNode : MethodName := ⟨RX1, "makeNode", "(LShapeForms$Heap;III)I"⟩
abbrev cX1_getLink : ByteArray := prog_3_method_15_code
def yX1_getLink : MethodName := ⟨RX1, "getLink", "(LShapeForms$Heap;IIII)I"⟩
abbrev cX1_putLink : ByteArray := prog_3_method_16_code
def yX1_putLink : MethodName := ⟨RX1, "putLink", "(LShapeForms$Heap;IIII)I"⟩
abbrev cX1_branchIfLess : ByteArray := prog_3_method_17_code
def yX1_branchIfLess : MethodName := ⟨RX1, "branchIfLess", "(LShapeForms$Heap;IIII)I"⟩
abbrev cX1_changeKey : ByteArray := prog_3_method_18_code
def yX1_changeKey : MethodName := ⟨RX1, "changeKey", "(LShapeForms$Heap;III)I"⟩
def RX2 : String := "ShapeForms$Starts"
def TX2 : u_T := fun k => match k with
  | _ => ("ShapeForms$Starts", "waiting", "[I", true)
def tyX2 : Nat → FieldType := fun k => match k with
  | _ => .array .int
abbrev wsX20 : List Cond := u_ws RX2 TX2 1
theorem nmX2 : ∀ a, a < 1 → ∀ b, b < 1 → a ≠ b → (TX2 a).2.1 ≠ (TX2 b).2.1 := by decide +kernel
theorem tyX2_ok : ∀ k, k < 1 → parseFieldDescriptor (TX2 k).2.2.1 = some (tyX2 k) := by decide +kernel
abbrev cX2_init : ByteArray := prog_4_method_1_code
def yX2_init : MethodName := ⟨RX2, "<init>", "()V"⟩
abbrev cX2_leastSize : ByteArray := prog_4_method_2_code
def yX2_leastSize : MethodName := ⟨RX2, "leastSize", "(I)I"⟩
abbrev cX2_rows : ByteArray := prog_4_method_3_code
def yX2_rows : MethodName := ⟨RX2, "rows", "(II)I"⟩
abbrev cX2_build : ByteArray := prog_4_method_4_code
def yX2_build : MethodName := ⟨RX2, "build", "(LShapeForms$Heap;IIII)Z"⟩
abbrev cX2_buildChain : ByteArray := prog_4_method_5_code
def yX2_buildChain : MethodName := ⟨RX2, "buildChain", "(LShapeForms$Heap;III)Z"⟩
abbrev cX2_linkChain : ByteArray := prog_4_method_6_code
def yX2_linkChain : MethodName := ⟨RX2, "linkChain", "(LShapeForms$Heap;II)V"⟩
abbrev cX2_buildTree : ByteArray := prog_4_method_7_code
def yX2_buildTree : MethodName := ⟨RX2, "buildTree", "(LShapeForms$Heap;II)Z"⟩
abbrev cX2_linksOf : ByteArray := prog_4_method_8_code
def yX2_linksOf : MethodName := ⟨RX2, "linksOf", "(III)I"⟩
abbrev cX2_leaveWaiting : ByteArray := prog_4_method_9_code
def yX2_leaveWaiting : MethodName := ⟨RX2, "leaveWaiting", "(III)I"⟩
abbrev cX2_pushWaiting : ByteArray := prog_4_method_10_code
def yX2_pushWaiting : MethodName := ⟨RX2, "pushWaiting", "(II)I"⟩
def RX3 : String := "ShapeForms"
def TX3 : u_T := fun k => match k with
  | 0 => ("ShapeForms", "program", "LShapeForms$Program;", true)
  | 1 => ("ShapeForms", "heap", "LShapeForms$Heap;", true)
  | 2 => ("ShapeForms", "starts", "LShapeForms$Starts;", true)
  | 3 => ("ShapeForms", "begun", "LShapeForms$Heap;", true)
  | 4 => ("ShapeForms", "tried", "LShapeForms$Heap;", true)
  | _ => ("ShapeForms", "broken", "I", false)
def tyX3 : Nat → FieldType := fun k => match k with
  | 0 => .object "ShapeForms$Program"
  | 1 => .object "ShapeForms$Heap"
  | 2 => .object "ShapeForms$Starts"
  | 3 => .object "ShapeForms$Heap"
  | 4 => .object "ShapeForms$Heap"
  | _ => .int
abbrev wsX30 : List Cond := u_ws RX3 TX3 6
theorem nmX3 : ∀ a, a < 6 → ∀ b, b < 6 → a ≠ b → (TX3 a).2.1 ≠ (TX3 b).2.1 := by decide +kernel
theorem tyX3_ok : ∀ k, k < 6 → parseFieldDescriptor (TX3 k).2.2.1 = some (tyX3 k) := by decide +kernel
abbrev cX3_init : ByteArray := prog_1_method_1_code
def yX3_init : MethodName := ⟨RX3, "<init>", "()V"⟩
abbrev cX3_op : ByteArray := prog_1_method_2_code
def yX3_op : MethodName := ⟨RX3, "op", "(IIII)I"⟩
abbrev cX3_clear : ByteArray := prog_1_method_3_code
def yX3_clear : MethodName := ⟨RX3, "clear", "()I"⟩
abbrev cX3_empty : ByteArray := prog_1_method_4_code
def yX3_empty : MethodName := ⟨RX3, "empty", "()I"⟩
abbrev cX3_node : ByteArray := prog_1_method_5_code
def yX3_node : MethodName := ⟨RX3, "node", "(I)I"⟩
abbrev cX3_link : ByteArray := prog_1_method_6_code
def yX3_link : MethodName := ⟨RX3, "link", "(III)I"⟩
abbrev cX3_hold : ByteArray := prog_1_method_7_code
def yX3_hold : MethodName := ⟨RX3, "hold", "(II)I"⟩
abbrev cX3_run : ByteArray := prog_1_method_8_code
def yX3_run : MethodName := ⟨RX3, "run", "()I"⟩
abbrev cX3_told : ByteArray := prog_1_method_9_code
def yX3_told : MethodName := ⟨RX3, "told", "(I)I"⟩
abbrev cX3_held : ByteArray := prog_1_method_10_code
def yX3_held : MethodName := ⟨RX3, "held", "(I)I"⟩
abbrev cX3_of : ByteArray := prog_1_method_11_code
def yX3_of : MethodName := ⟨RX3, "of", "(II)I"⟩
abbrev cX3_form : ByteArray := prog_1_method_12_code
def yX3_form : MethodName := ⟨RX3, "form", "(II)I"⟩
abbrev cX3_size : ByteArray := prog_1_method_13_code
def yX3_size : MethodName := ⟨RX3, "size", "(IZ)I"⟩
abbrev cX3_claim : ByteArray := prog_1_method_14_code
def yX3_claim : MethodName := ⟨RX3, "claim", "(IIIIIZ)I"⟩
abbrev cX3_why : ByteArray := prog_1_method_15_code
def yX3_why : MethodName := ⟨RX3, "why", "()I"⟩
abbrev cX3_count : ByteArray := prog_1_method_16_code
def yX3_count : MethodName := ⟨RX3, "count", "(I)I"⟩
abbrev cX3_tryStart : ByteArray := prog_1_method_17_code
def yX3_tryStart : MethodName := ⟨RX3, "tryStart", "(IIZ)I"⟩
abbrev cX3_isVariable : ByteArray := prog_1_method_18_code
def yX3_isVariable : MethodName := ⟨RX3, "isVariable", "(I)Z"⟩
abbrev cX3_isLink : ByteArray := prog_1_method_19_code
def yX3_isLink : MethodName := ⟨RX3, "isLink", "(I)Z"⟩
abbrev cX3_isForm : ByteArray := prog_1_method_20_code
def yX3_isForm : MethodName := ⟨RX3, "isForm", "(I)Z"⟩
abbrev cX3_isStartForm : ByteArray := prog_1_method_21_code
def yX3_isStartForm : MethodName := ⟨RX3, "isStartForm", "(I)Z"⟩
def RX4 : String := "ShapeFormsModel"
def TX4 : u_T := fun k => match k with
  | 0 => ("ShapeFormsModel", "nodes", "I", false)
  | 1 => ("ShapeFormsModel", "links", "[I", true)
  | 2 => ("ShapeFormsModel", "keys", "[I", true)
  | 3 => ("ShapeFormsModel", "held", "[I", true)
  | 4 => ("ShapeFormsModel", "ops", "I", false)
  | 5 => ("ShapeFormsModel", "op", "[I", true)
  | 6 => ("ShapeFormsModel", "as", "[I", true)
  | 7 => ("ShapeFormsModel", "bs", "[I", true)
  | 8 => ("ShapeFormsModel", "cs", "[I", true)
  | 9 => ("ShapeFormsModel", "done", "I", false)
  | 10 => ("ShapeFormsModel", "last", "I", false)
  | 11 => ("ShapeFormsModel", "why", "I", false)
  | 12 => ("ShapeFormsModel", "come", "[Z", true)
  | 13 => ("ShapeFormsModel", "row", "[I", true)
  | 14 => ("ShapeFormsModel", "rowMany", "I", false)
  | 15 => ("ShapeFormsModel", "trees", "[I", true)
  | 16 => ("ShapeFormsModel", "treeMany", "I", false)
  | 17 => ("ShapeFormsModel", "waits", "[I", true)
  | 18 => ("ShapeFormsModel", "startKeys", "[I", true)
  | 19 => ("ShapeFormsModel", "keptNodes", "I", false)
  | 20 => ("ShapeFormsModel", "keptLinks", "[I", true)
  | 21 => ("ShapeFormsModel", "keptKeys", "[I", true)
  | _ => ("ShapeFormsModel", "keptHeld", "[I", true)
def tyX4 : Nat → FieldType := fun k => match k with
  | 0 => .int
  | 1 => .array .int
  | 2 => .array .int
  | 3 => .array .int
  | 4 => .int
  | 5 => .array .int
  | 6 => .array .int
  | 7 => .array .int
  | 8 => .array .int
  | 9 => .int
  | 10 => .int
  | 11 => .int
  | 12 => .array .boolean
  | 13 => .array .int
  | 14 => .int
  | 15 => .array .int
  | 16 => .int
  | 17 => .array .int
  | 18 => .array .int
  | 19 => .int
  | 20 => .array .int
  | 21 => .array .int
  | _ => .array .int
abbrev wsX40 : List Cond := u_ws RX4 TX4 23
theorem nmX4 : ∀ a, a < 23 → ∀ b, b < 23 → a ≠ b → (TX4 a).2.1 ≠ (TX4 b).2.1 := by decide +kernel
theorem tyX4_ok : ∀ k, k < 23 → parseFieldDescriptor (TX4 k).2.2.1 = some (tyX4 k) := by decide +kernel
abbrev cX4_init : ByteArray := prog_6_method_1_code
def yX4_init : MethodName := ⟨RX4, "<init>", "()V"⟩
abbrev cX4_isIn : ByteArray := prog_6_method_2_code
def yX4_isIn : MethodName := ⟨RX4, "isIn", "(III)Z"⟩
abbrev cX4_isNode : ByteArray := prog_6_method_3_code
def yX4_isNode : MethodName := ⟨RX4, "isNode", "(I)Z"⟩
abbrev cX4_isVariable : ByteArray := prog_6_method_4_code
def yX4_isVariable : MethodName := ⟨RX4, "isVariable", "(I)Z"⟩
abbrev cX4_isRight : ByteArray := prog_6_method_5_code
def yX4_isRight : MethodName := ⟨RX4, "isRight", "(IIII)Z"⟩
abbrev cX4_op : ByteArray := prog_6_method_6_code
def yX4_op : MethodName := ⟨RX4, "op", "(IIII)I"⟩
abbrev cX4_clear : ByteArray := prog_6_method_7_code
def yX4_clear : MethodName := ⟨RX4, "clear", "()I"⟩
abbrev cX4_empty : ByteArray := prog_6_method_8_code
def yX4_empty : MethodName := ⟨RX4, "empty", "()I"⟩
abbrev cX4_node : ByteArray := prog_6_method_9_code
def yX4_node : MethodName := ⟨RX4, "node", "(I)I"⟩
abbrev cX4_link : ByteArray := prog_6_method_10_code
def yX4_link : MethodName := ⟨RX4, "link", "(III)I"⟩
abbrev cX4_hold : ByteArray := prog_6_method_11_code
def yX4_hold : MethodName := ⟨RX4, "hold", "(II)I"⟩
abbrev cX4_run : ByteArray := prog_6_method_12_code
def yX4_run : MethodName := ⟨RX4, "run", "()I"⟩
abbrev cX4_told : ByteArray := prog_6_method_13_code
def yX4_told : MethodName := ⟨RX4, "told", "(I)I"⟩
abbrev cX4_held : ByteArray := prog_6_method_14_code
def yX4_held : MethodName := ⟨RX4, "held", "(I)I"⟩
abbrev cX4_of : ByteArray := prog_6_method_15_code
def yX4_of : MethodName := ⟨RX4, "of", "(II)I"⟩
abbrev cX4_gather : ByteArray := prog_6_method_16_code
def yX4_gather : MethodName := ⟨RX4, "gather", "(IZ)V"⟩
abbrev cX4_ends : ByteArray := prog_6_method_17_code
def yX4_ends : MethodName := ⟨RX4, "ends", "(I)Z"⟩
abbrev cX4_isDoubly : ByteArray := prog_6_method_18_code
def yX4_isDoubly : MethodName := ⟨RX4, "isDoubly", "(I)Z"⟩
abbrev cX4_isTree : ByteArray := prog_6_method_19_code
def yX4_isTree : MethodName := ⟨RX4, "isTree", "(I)Z"⟩
abbrev cX4_isSorted : ByteArray := prog_6_method_20_code
def yX4_isSorted : MethodName := ⟨RX4, "isSorted", "(I)Z"⟩
abbrev cX4_has : ByteArray := prog_6_method_21_code
def yX4_has : MethodName := ⟨RX4, "has", "(II)Z"⟩
abbrev cX4_form : ByteArray := prog_6_method_22_code
def yX4_form : MethodName := ⟨RX4, "form", "(II)I"⟩
abbrev cX4_size : ByteArray := prog_6_method_23_code
def yX4_size : MethodName := ⟨RX4, "size", "(IZ)I"⟩
abbrev cX4_isTreeOf : ByteArray := prog_6_method_24_code
def yX4_isTreeOf : MethodName := ⟨RX4, "isTreeOf", "(III)Z"⟩
abbrev cX4_isAhead : ByteArray := prog_6_method_25_code
def yX4_isAhead : MethodName := ⟨RX4, "isAhead", "(III)Z"⟩
abbrev cX4_makesTrees : ByteArray := prog_6_method_26_code
def yX4_makesTrees : MethodName := ⟨RX4, "makesTrees", "(I)V"⟩
abbrev cX4_starts : ByteArray := prog_6_method_27_code
def yX4_starts : MethodName := ⟨RX4, "starts", "(IIII)Z"⟩
abbrev cX4_keysOf : ByteArray := prog_6_method_28_code
def yX4_keysOf : MethodName := ⟨RX4, "keysOf", "(III)Z"⟩
abbrev cX4_keeps : ByteArray := prog_6_method_29_code
def yX4_keeps : MethodName := ⟨RX4, "keeps", "()V"⟩
abbrev cX4_comesBack : ByteArray := prog_6_method_30_code
def yX4_comesBack : MethodName := ⟨RX4, "comesBack", "()V"⟩
abbrev cX4_areKept : ByteArray := prog_6_method_31_code
def yX4_areKept : MethodName := ⟨RX4, "areKept", "(IIII)Z"⟩
abbrev cX4_claim : ByteArray := prog_6_method_32_code
def yX4_claim : MethodName := ⟨RX4, "claim", "(IIIIIZ)I"⟩
abbrev cX4_why : ByteArray := prog_6_method_33_code
def yX4_why : MethodName := ⟨RX4, "why", "()I"⟩
abbrev cX4_count : ByteArray := prog_6_method_34_code
def yX4_count : MethodName := ⟨RX4, "count", "(I)I"⟩
def RJ10 : String := "java/lang/System"
def RL : String := "ShapeFormsLaw"
abbrev cL_law : ByteArray := code
def yL_law : MethodName := ⟨RL, "law", "([I)Z"⟩
abbrev vwCl : List vw_C := [(RX0, TX0, 6), (RX1, TX1, 7), (RX2, TX2, 1), (RX3, TX3, 6), (RX4, TX4, 23)]
theorem za_iX0 : ∀ w ∈ wsX00, w ∈ lw_tbl := by decide +kernel
theorem za_iX1 : ∀ w ∈ wsX10, w ∈ lw_tbl := by decide +kernel
theorem za_iX2 : ∀ w ∈ wsX20, w ∈ lw_tbl := by decide +kernel
theorem za_iX3 : ∀ w ∈ wsX30, w ∈ lw_tbl := by decide +kernel
theorem za_iX4 : ∀ w ∈ wsX40, w ∈ lw_tbl := by decide +kernel
end
section
/-! the machine of this claim, small: memory is cells by places; the data of its methods, printed by program -/
abbrev za_M : Type := Nat → Nat → Int32
def za_row (M : za_M) (c : Nat) (f : Nat → Int32) : za_M := fun q => if q = c then f else M q
def za_up (M : za_M) (c i : Nat) (x : Int32) : za_M := za_row M c (upd (M c) i x)
abbrev za_L : Type := (Nat × List (Option Nat)) ⊕ (Bool × Nat)
def za_cells : List za_L := [.inl (3, [some 1, some 6, some 12, some 14, some 20, none]),
  .inl (1, [some 2, some 3, some 4, some 5, none, none, none]),
  .inr (false, 60),
  .inr (false, 60),
  .inr (false, 60),
  .inr (false, 60),
  .inl (0, [some 7, some 8, some 9, none, some 10, some 11]),
  .inr (false, 24),
  .inr (false, 48),
  .inr (false, 8),
  .inr (false, 24),
  .inr (true, 24),
  .inl (2, [some 13]),
  .inr (false, 10),
  .inl (0, [some 15, some 16, some 17, none, some 18, some 19]),
  .inr (false, 24),
  .inr (false, 48),
  .inr (false, 8),
  .inr (false, 24),
  .inr (true, 24),
  .inl (0, [some 21, some 22, some 23, none, some 24, some 25]),
  .inr (false, 24),
  .inr (false, 48),
  .inr (false, 8),
  .inr (false, 24),
  .inr (true, 24),
  .inl (4, [none, some 27, some 28, some 29, none, some 30, some 31, some 32, some 33, none, none, none, some 34, some 35, none, some 36, none, some 37, some 38, none, some 39, some 40, some 41]),
  .inr (false, 48),
  .inr (false, 24),
  .inr (false, 8),
  .inr (false, 60),
  .inr (false, 60),
  .inr (false, 60),
  .inr (false, 60),
  .inr (true, 24),
  .inr (false, 24),
  .inr (false, 500),
  .inr (false, 12),
  .inr (false, 5),
  .inr (false, 48),
  .inr (false, 24),
  .inr (false, 8)]
/-- what a cell is; 100 is the script, 101 the kinds -/
def za_at (L c : Nat) : Option za_L := if c = 100 then some (.inr (false, L)) else if c = 101 then some (.inr (false, 33)) else za_cells[c]?
def za_cns : List String := [RX0, RX1, RX2, RX3, RX4, RL]
def za_ys : List MethodName := [yX0_init, yX0_drop, yX0_become, yX0_nodes, yX0_isNode, yX0_isNodeOrNone, yX0_add, yX0_key, yX0_setKey, yX0_target, yX0_setTarget, yX0_variable, yX0_setVariable, yX0_reach, yX0_mark, yX0_clearMarks, yX0_hasForm, yX0_behindLast, yX0_isList, yX0_isRing, yX0_linksBack, yX0_neverFalls, yX0_isTree, yX0_keepsKeys, yX0_reachedWith, yX0_nodesWith, yX1_init, yX1_isInstruction, yX1_fits, yX1_add, yX1_drop, yX1_length, yX1_stepsDone, yX1_lastStep, yX1_execute, yX1_isInside, yX1_stop, yX1_outcomeOf, yX1_step, yX1_makeNode, yX1_getLink, yX1_putLink, yX1_branchIfLess, yX1_changeKey, yX2_init, yX2_leastSize, yX2_rows, yX2_build, yX2_buildChain, yX2_linkChain, yX2_buildTree, yX2_linksOf, yX2_leaveWaiting, yX2_pushWaiting, yX3_init, yX3_op, yX3_clear, yX3_empty, yX3_node, yX3_link, yX3_hold, yX3_run, yX3_told, yX3_held, yX3_of, yX3_form, yX3_size, yX3_claim, yX3_why, yX3_count, yX3_tryStart, yX3_isVariable, yX3_isLink, yX3_isForm, yX3_isStartForm, yX4_init, yX4_isIn, yX4_isNode, yX4_isVariable, yX4_isRight, yX4_op, yX4_clear, yX4_empty, yX4_node, yX4_link, yX4_hold, yX4_run, yX4_told, yX4_held, yX4_of, yX4_gather, yX4_ends, yX4_isDoubly, yX4_isTree, yX4_isSorted, yX4_has, yX4_form, yX4_size, yX4_isTreeOf, yX4_isAhead, yX4_makesTrees, yX4_starts, yX4_keysOf, yX4_keeps, yX4_comesBack, yX4_areKept, yX4_claim, yX4_why, yX4_count, yL_law]
def za_bys : List ByteArray := [cX0_init, cX0_drop, cX0_become, cX0_nodes, cX0_isNode, cX0_isNodeOrNone, cX0_add, cX0_key, cX0_setKey, cX0_target, cX0_setTarget, cX0_variable, cX0_setVariable, cX0_reach, cX0_mark, cX0_clearMarks, cX0_hasForm, cX0_behindLast, cX0_isList, cX0_isRing, cX0_linksBack, cX0_neverFalls, cX0_isTree, cX0_keepsKeys, cX0_reachedWith, cX0_nodesWith, cX1_init, cX1_isInstruction, cX1_fits, cX1_add, cX1_drop, cX1_length, cX1_stepsDone, cX1_lastStep, cX1_execute, cX1_isInside, cX1_stop, cX1_outcomeOf, cX1_step, cX1_makeNode, cX1_getLink, cX1_putLink, cX1_branchIfLess, cX1_changeKey, cX2_init, cX2_leastSize, cX2_rows, cX2_build, cX2_buildChain, cX2_linkChain, cX2_buildTree, cX2_linksOf, cX2_leaveWaiting, cX2_pushWaiting, cX3_init, cX3_op, cX3_clear, cX3_empty, cX3_node, cX3_link, cX3_hold, cX3_run, cX3_told, cX3_held, cX3_of, cX3_form, cX3_size, cX3_claim, cX3_why, cX3_count, cX3_tryStart, cX3_isVariable, cX3_isLink, cX3_isForm, cX3_isStartForm, cX4_init, cX4_isIn, cX4_isNode, cX4_isVariable, cX4_isRight, cX4_op, cX4_clear, cX4_empty, cX4_node, cX4_link, cX4_hold, cX4_run, cX4_told, cX4_held, cX4_of, cX4_gather, cX4_ends, cX4_isDoubly, cX4_isTree, cX4_isSorted, cX4_has, cX4_form, cX4_size, cX4_isTreeOf, cX4_isAhead, cX4_makesTrees, cX4_starts, cX4_keysOf, cX4_keeps, cX4_comesBack, cX4_areKept, cX4_claim, cX4_why, cX4_count, cL_law]
def za_owns : List Nat := [0, 0, 0, 0, 0, 0, 0, 0, 0, 0, 0, 0, 0, 0, 0, 0, 0, 0, 0, 0, 0, 0, 0, 0, 0, 0, 1, 1, 1, 1, 1, 1, 1, 1, 1, 1, 1, 1, 1, 1, 1, 1, 1, 1, 2, 2, 2, 2, 2, 2, 2, 2, 2, 2, 3, 3, 3, 3, 3, 3, 3, 3, 3, 3, 3, 3, 3, 3, 3, 3, 3, 3, 3, 3, 3, 4, 4, 4, 4, 4, 4, 4, 4, 4, 4, 4, 4, 4, 4, 4, 4, 4, 4, 4, 4, 4, 4, 4, 4, 4, 4, 4, 4, 4, 4, 4, 4, 4, 4, 5]
def za_mxs : List Nat := [1, 3, 2, 1, 2, 2, 3, 2, 3, 3, 4, 2, 3, 7, 3, 2, 4, 2, 2, 2, 4, 3, 5, 6, 5, 4, 1, 5, 2, 6, 2, 1, 1, 1, 4, 2, 1, 1, 7, 5, 6, 6, 7, 5, 1, 1, 5, 7, 9, 4, 7, 3, 5, 3, 1, 5, 1, 1, 2, 4, 3, 1, 2, 2, 3, 3, 3, 11, 1, 2, 5, 1, 1, 1, 1, 2, 3, 2, 1, 5, 5, 2, 3, 2, 4, 3, 6, 2, 2, 3, 6, 2, 4, 6, 4, 4, 3, 3, 7, 7, 6, 8, 10, 2, 2, 10, 12, 1, 2, 4]
def za_nas : List Nat := [1, 1, 2, 1, 2, 2, 2, 2, 3, 3, 4, 2, 3, 3, 3, 1, 3, 2, 2, 2, 2, 2, 2, 4, 3, 2, 1, 4, 2, 5, 1, 1, 1, 1, 2, 2, 1, 1, 3, 4, 5, 5, 5, 4, 1, 1, 2, 6, 4, 3, 4, 3, 4, 3, 1, 5, 1, 1, 2, 4, 3, 1, 2, 2, 3, 3, 3, 7, 1, 2, 4, 1, 1, 1, 1, 1, 3, 2, 1, 4, 5, 1, 1, 2, 4, 3, 1, 2, 2, 3, 3, 2, 2, 2, 2, 3, 3, 3, 4, 4, 2, 5, 4, 1, 1, 5, 7, 1, 2, 1]
def za_rts : List Nat := [0, 1, 0, 1, 2, 2, 1, 1, 0, 1, 0, 1, 0, 1, 1, 0, 2, 1, 2, 2, 2, 2, 2, 2, 1, 1, 0, 2, 2, 1, 1, 1, 1, 1, 1, 2, 1, 1, 1, 1, 1, 1, 1, 1, 0, 1, 1, 2, 2, 0, 2, 1, 1, 1, 0, 1, 1, 1, 1, 1, 1, 1, 1, 1, 1, 1, 1, 1, 1, 1, 1, 2, 2, 2, 2, 0, 2, 2, 2, 2, 1, 1, 1, 1, 1, 1, 1, 1, 1, 1, 0, 2, 2, 2, 2, 2, 1, 1, 2, 2, 0, 2, 2, 0, 0, 2, 1, 1, 1, 2]
def za_sts : List Bool := [false, false, false, false, false, false, false, false, false, false, false, false, false, false, false, false, false, false, false, false, false, false, false, false, false, false, false, true, true, false, false, false, false, false, false, false, true, true, false, true, true, true, true, true, false, true, true, false, true, true, false, true, false, false, false, false, false, false, false, false, false, false, false, false, false, false, false, false, false, false, false, true, true, true, true, false, true, false, true, true, false, false, false, false, false, false, false, false, false, false, false, false, false, false, false, false, false, false, false, false, false, false, false, false, false, false, false, false, false, true]
def za_hts : List Nat := [1, 0, 1, 0, 0, 1, 0, 1, 1, 1, 1, 1, 1, 2, 1, 0, 4, 2, 3, 3, 2, 2, 2, 3, 2, 2, 1, 2, 1, 0, 0, 0, 0, 0, 4, 0, 0, 0, 3, 2, 2, 2, 2, 2, 1, 0, 0, 4, 3, 2, 2, 0, 1, 0, 2, 3, 1, 1, 1, 2, 2, 5, 1, 2, 2, 5, 3, 6, 0, 1, 5, 0, 0, 0, 0, 1, 0, 1, 1, 2, 3, 0, 0, 0, 2, 2, 1, 0, 2, 2, 0, 1, 2, 1, 2, 3, 4, 2, 0, 0, 1, 1, 0, 0, 0, 1, 4, 0, 0, 7]
def za_y (y : Nat) : MethodName := za_ys.getD y yL_law
def za_by (y : Nat) : ByteArray := za_bys.getD y cL_law
def za_own (y : Nat) : Nat := za_owns.getD y 9
def za_mx (y : Nat) : Nat := za_mxs.getD y 0
def za_na (y : Nat) : Nat := za_nas.getD y 0
def za_rt (y : Nat) : Nat := za_rts.getD y 0
def za_st (y : Nat) : Bool := za_sts.getD y false
def za_ht (y : Nat) : Nat := za_hts.getD y 99
def za_cn (k : Nat) : String := za_cns.getD k ""
def za_fl : List ((Nat × Nat) × (Nat × Nat)) := [((0, 9), (0, 0)), ((0, 15), (0, 1)), ((0, 18), (0, 2)), ((0, 21), (0, 4)), ((0, 24), (0, 5)), ((0, 32), (0, 3)), ((1, 9), (1, 0)), ((1, 15), (1, 1)), ((1, 18), (1, 2)), ((1, 21), (1, 3)), ((1, 24), (1, 4)), ((1, 28), (1, 5)), ((1, 32), (1, 6)), ((2, 9), (2, 0)), ((3, 10), (3, 0)), ((3, 19), (3, 1)), ((3, 26), (3, 2)), ((3, 30), (3, 3)), ((3, 33), (3, 4)), ((3, 36), (3, 5)), ((4, 7), (4, 1)), ((4, 13), (4, 2)), ((4, 16), (4, 3)), ((4, 19), (4, 5)), ((4, 22), (4, 6)), ((4, 25), (4, 7)), ((4, 28), (4, 8)), ((4, 32), (4, 10)), ((4, 36), (4, 12)), ((4, 40), (4, 13)), ((4, 43), (4, 15)), ((4, 46), (4, 17)), ((4, 49), (4, 18)), ((4, 52), (4, 20)), ((4, 55), (4, 21)), ((4, 58), (4, 22)), ((4, 61), (4, 0)), ((4, 76), (4, 4)), ((4, 82), (4, 9)), ((4, 89), (4, 14)), ((4, 112), (4, 16)), ((4, 128), (4, 19)), ((4, 134), (4, 11))]
def za_ml : List ((Nat × Nat) × Nat) := [((0, 43), 4), ((0, 53), 15), ((0, 56), 11), ((0, 60), 14), ((0, 64), 9), ((0, 67), 13), ((0, 71), 18), ((0, 74), 20), ((0, 77), 19), ((0, 80), 22), ((0, 83), 21), ((0, 86), 17), ((0, 89), 7), ((0, 92), 24), ((0, 95), 25), ((1, 38), 28), ((1, 49), 35), ((1, 52), 38), ((1, 56), 37), ((1, 60), 36), ((1, 63), 39), ((1, 67), 12), ((1, 73), 11), ((1, 76), 40), ((1, 80), 41), ((1, 83), 42), ((1, 86), 43), ((1, 89), 6), ((1, 92), 9), ((1, 96), 10), ((1, 100), 7), ((1, 103), 8), ((2, 15), 1), ((2, 21), 50), ((2, 25), 48), ((2, 30), 12), ((2, 34), 46), ((2, 38), 6), ((2, 42), 49), ((2, 46), 10), ((2, 50), 51), ((2, 54), 52), ((2, 57), 53), ((3, 40), 27), ((3, 44), 29), ((3, 48), 30), ((3, 52), 1), ((3, 53), 6), ((3, 56), 4), ((3, 60), 72), ((3, 63), 5), ((3, 66), 10), ((3, 70), 71), ((3, 73), 12), ((3, 77), 34), ((3, 81), 32), ((3, 84), 33), ((3, 87), 11), ((3, 90), 9), ((3, 94), 7), ((3, 97), 73), ((3, 100), 16), ((3, 104), 13), ((3, 108), 74), ((3, 111), 45), ((3, 114), 46), ((3, 117), 47), ((3, 121), 70), ((3, 125), 2), ((3, 129), 3), ((3, 132), 31), ((3, 135), 23), ((4, 64), 76), ((4, 68), 78), ((4, 72), 79), ((4, 79), 77), ((4, 85), 83), ((4, 92), 90), ((4, 96), 91), ((4, 99), 92), ((4, 102), 93), ((4, 105), 94), ((4, 108), 95), ((4, 115), 98), ((4, 118), 99), ((4, 121), 102), ((4, 124), 82), ((4, 131), 103), ((4, 137), 100), ((4, 141), 101), ((4, 144), 86), ((4, 147), 105), ((4, 150), 104), ((5, 13), 55), ((5, 17), 80), ((5, 18), 56), ((5, 22), 81), ((5, 23), 57), ((5, 26), 82), ((5, 27), 58), ((5, 31), 83), ((5, 32), 59), ((5, 36), 84), ((5, 37), 60), ((5, 41), 85), ((5, 42), 61), ((5, 45), 86), ((5, 46), 62), ((5, 49), 87), ((5, 50), 63), ((5, 53), 88), ((5, 54), 64), ((5, 57), 89), ((5, 58), 65), ((5, 61), 96), ((5, 62), 66), ((5, 66), 97), ((5, 67), 67), ((5, 71), 106), ((5, 72), 68), ((5, 75), 107), ((5, 76), 69), ((5, 79), 108)]
def za_nl : List ((Nat × Nat) × Nat) := [((0, 47), 72), ((0, 50), 71), ((1, 42), 71), ((1, 46), 72)]
def za_cl : List ((Nat × Nat) × Int32) := [((0, 36), (-99999999)), ((1, 31), (-99999999)), ((2, 29), (-99999999)), ((4, 31), (-99999999))]
def za_look {α : Type} : List ((Nat × Nat) × α) → Nat → Nat → Option α
  | [], _, _ => none
  | q :: l, a, b => if q.1.1 = a then (if q.1.2 = b then some q.2 else za_look l a b) else za_look l a b
def za_find : List (Nat × Instr) → Nat → Option Instr
  | [], _ => none
  | q :: l, a => if q.1 = a then some q.2 else za_find l a
def za_t0 : List (Nat × Instr) := []
def za_t1 : List (Nat × Instr) := [(0, .aload_n 0), (1, .getfield 32), (4, .istore_n 1), (5, .aload_n 0), (6, .iconst 0), (7, .putfield 32), (10, .iconst 0), (11, .istore_n 2), (12, .iload_n 2), (13, .bipush 8), (15, .if_icmp .ge 17), (18, .aload_n 0), (19, .getfield 18), (22, .iload_n 2), (23, .ldc 36), (25, .iastore), (26, .iinc 2 1), (29, .goto (-17)), (32, .iload_n 1), (33, .ireturn)]
def za_t2 : List (Nat × Instr) := [(0, .aload_n 0), (1, .aload_n 1), (2, .getfield 32), (5, .putfield 32), (8, .aload_n 1), (9, .getfield 9), (12, .iconst 0), (13, .aload_n 0), (14, .getfield 9), (17, .iconst 0), (18, .bipush 24), (20, .invokestatic 37), (23, .aload_n 1), (24, .getfield 15), (27, .iconst 0), (28, .aload_n 0), (29, .getfield 15), (32, .iconst 0), (33, .bipush 48), (35, .invokestatic 37), (38, .aload_n 1), (39, .getfield 18), (42, .iconst 0), (43, .aload_n 0), (44, .getfield 18), (47, .iconst 0), (48, .bipush 8), (50, .invokestatic 37), (53, .return_)]
def za_t3 : List (Nat × Instr) := [(0, .aload_n 0), (1, .getfield 32), (4, .ireturn)]
def za_t4 : List (Nat × Instr) := [(0, .iload_n 1), (1, .ifCond .lt 15), (4, .iload_n 1), (5, .aload_n 0), (6, .getfield 32), (9, .if_icmp .ge 7), (12, .iconst 1), (13, .goto 4), (16, .iconst 0), (17, .ireturn)]
def za_t5 : List (Nat × Instr) := [(0, .iload_n 1), (1, .ldc 36), (3, .if_icmp .eq 11), (6, .aload_n 0), (7, .iload_n 1), (8, .invokevirtual 43), (11, .ifCond .eq 7), (14, .iconst 1), (15, .goto 4), (18, .iconst 0), (19, .ireturn)]
def za_t6 : List (Nat × Instr) := [(0, .aload_n 0), (1, .getfield 32), (4, .bipush 24), (6, .if_icmp .lt 6), (9, .bipush (-3)), (11, .ireturn), (12, .aload_n 0), (13, .getfield 32), (16, .istore_n 2), (17, .aload_n 0), (18, .dup), (19, .getfield 32), (22, .iconst 1), (23, .iadd), (24, .putfield 32), (27, .aload_n 0), (28, .getfield 9), (31, .iload_n 2), (32, .iload_n 1), (33, .iastore), (34, .aload_n 0), (35, .getfield 15), (38, .iconst 2), (39, .iload_n 2), (40, .imul), (41, .ldc 36), (43, .iastore), (44, .aload_n 0), (45, .getfield 15), (48, .iconst 2), (49, .iload_n 2), (50, .imul), (51, .iconst 1), (52, .iadd), (53, .ldc 36), (55, .iastore), (56, .iload_n 2), (57, .ireturn)]
def za_t7 : List (Nat × Instr) := [(0, .aload_n 0), (1, .iload_n 1), (2, .invokevirtual 43), (5, .ifCond .eq 12), (8, .aload_n 0), (9, .getfield 9), (12, .iload_n 1), (13, .iaload), (14, .goto 4), (17, .iconst 0), (18, .ireturn)]
def za_t8 : List (Nat × Instr) := [(0, .aload_n 0), (1, .iload_n 1), (2, .invokevirtual 43), (5, .ifCond .eq 10), (8, .aload_n 0), (9, .getfield 9), (12, .iload_n 1), (13, .iload_n 2), (14, .iastore), (15, .return_)]
def za_t9 : List (Nat × Instr) := [(0, .aload_n 0), (1, .iload_n 1), (2, .invokevirtual 43), (5, .ifCond .eq 23), (8, .iload_n 2), (9, .invokestatic 47), (12, .ifCond .eq 16), (15, .aload_n 0), (16, .getfield 15), (19, .iconst 2), (20, .iload_n 1), (21, .imul), (22, .iload_n 2), (23, .iadd), (24, .iaload), (25, .goto 5), (28, .ldc 36), (30, .ireturn)]
def za_t10 : List (Nat × Instr) := [(0, .aload_n 0), (1, .iload_n 1), (2, .invokevirtual 43), (5, .ifCond .eq 21), (8, .iload_n 2), (9, .invokestatic 47), (12, .ifCond .eq 14), (15, .aload_n 0), (16, .getfield 15), (19, .iconst 2), (20, .iload_n 1), (21, .imul), (22, .iload_n 2), (23, .iadd), (24, .iload_n 3), (25, .iastore), (26, .return_)]
def za_t11 : List (Nat × Instr) := [(0, .iload_n 1), (1, .invokestatic 50), (4, .ifCond .eq 12), (7, .aload_n 0), (8, .getfield 18), (11, .iload_n 1), (12, .iaload), (13, .goto 5), (16, .ldc 36), (18, .ireturn)]
def za_t12 : List (Nat × Instr) := [(0, .iload_n 1), (1, .invokestatic 50), (4, .ifCond .eq 10), (7, .aload_n 0), (8, .getfield 18), (11, .iload_n 1), (12, .iload_n 2), (13, .iastore), (14, .return_)]
def za_t13 : List (Nat × Instr) := [(0, .aload_n 0), (1, .invokevirtual 53), (4, .iload_n 2), (5, .ifCond .eq 7), (8, .iconst 2), (9, .goto 4), (12, .iconst 1), (13, .istore_n 3), (14, .aload_n 0), (15, .aload_n 0), (16, .iload_n 1), (17, .invokevirtual 56), (20, .iconst 0), (21, .invokevirtual 60), (24, .istore 4), (26, .iconst 0), (27, .istore 5), (29, .iload 5), (31, .iload 4), (33, .if_icmp .ge 52), (36, .iload 5), (38, .bipush 24), (40, .if_icmp .ge 45), (43, .iconst 0), (44, .istore 6), (46, .iload 6), (48, .iload_n 3), (49, .if_icmp .ge 30), (52, .aload_n 0), (53, .aload_n 0), (54, .aload_n 0), (55, .getfield 21), (58, .iload 5), (60, .iaload), (61, .iload 6), (63, .invokevirtual 64), (66, .iload 4), (68, .invokevirtual 60), (71, .istore 4), (73, .iinc 6 1), (76, .goto (-30)), (79, .iinc 5 1), (82, .goto (-53)), (85, .iload 4), (87, .ireturn)]
def za_t14 : List (Nat × Instr) := [(0, .aload_n 0), (1, .iload_n 1), (2, .invokevirtual 43), (5, .ifCond .eq 22), (8, .aload_n 0), (9, .getfield 24), (12, .iload_n 1), (13, .baload), (14, .ifCond .ne 13), (17, .iload_n 2), (18, .ifCond .lt 9), (21, .iload_n 2), (22, .bipush 24), (24, .if_icmp .lt 5), (27, .iload_n 2), (28, .ireturn), (29, .aload_n 0), (30, .getfield 24), (33, .iload_n 1), (34, .iconst 1), (35, .bastore), (36, .aload_n 0), (37, .getfield 21), (40, .iload_n 2), (41, .iload_n 1), (42, .iastore), (43, .iload_n 2), (44, .iconst 1), (45, .iadd), (46, .ireturn)]
def za_t15 : List (Nat × Instr) := [(0, .iconst 0), (1, .istore_n 1), (2, .iload_n 1), (3, .bipush 24), (5, .if_icmp .ge 16), (8, .aload_n 0), (9, .getfield 24), (12, .iload_n 1), (13, .iconst 0), (14, .bastore), (15, .iinc 1 1), (18, .goto (-16)), (21, .return_)]
def za_t16 : List (Nat × Instr) := [(0, .aload_n 0), (1, .iload_n 1), (2, .iload_n 2), (3, .iconst 4), (4, .if_icmp .ne 7), (7, .iconst 1), (8, .goto 4), (11, .iconst 0), (12, .invokevirtual 67), (15, .istore_n 3), (16, .iload_n 2), (17, .tableswitch 111 0 5 #[39, 49, 55, 77, 83, 89]), (56, .iload_n 3), (57, .ifCond .ne 7), (60, .iconst 1), (61, .goto 4), (64, .iconst 0), (65, .ireturn), (66, .aload_n 0), (67, .iload_n 3), (68, .invokevirtual 71), (71, .ireturn), (72, .aload_n 0), (73, .iload_n 3), (74, .invokevirtual 71), (77, .ifCond .eq 15), (80, .aload_n 0), (81, .iload_n 3), (82, .invokevirtual 74), (85, .ifCond .eq 7), (88, .iconst 1), (89, .goto 4), (92, .iconst 0), (93, .ireturn), (94, .aload_n 0), (95, .iload_n 3), (96, .invokevirtual 77), (99, .ireturn), (100, .aload_n 0), (101, .iload_n 3), (102, .invokevirtual 80), (105, .ireturn), (106, .aload_n 0), (107, .iload_n 3), (108, .invokevirtual 71), (111, .ifCond .eq 15), (114, .aload_n 0), (115, .iload_n 3), (116, .invokevirtual 83), (119, .ifCond .eq 7), (122, .iconst 1), (123, .goto 4), (126, .iconst 0), (127, .ireturn), (128, .iload_n 2), (129, .bipush 6), (131, .if_icmp .ne 7), (134, .iconst 1), (135, .goto 4), (138, .iconst 0), (139, .ireturn)]
def za_t17 : List (Nat × Instr) := [(0, .iload_n 1), (1, .ifCond .le 25), (4, .iload_n 1), (5, .bipush 24), (7, .if_icmp .gt 19), (10, .aload_n 0), (11, .aload_n 0), (12, .getfield 21), (15, .iload_n 1), (16, .iconst 1), (17, .isub), (18, .iaload), (19, .iconst 0), (20, .invokevirtual 64), (23, .goto 5), (26, .ldc 36), (28, .ireturn)]
def za_t18 : List (Nat × Instr) := [(0, .aload_n 0), (1, .iload_n 1), (2, .invokevirtual 86), (5, .ldc 36), (7, .if_icmp .ne 7), (10, .iconst 1), (11, .goto 4), (14, .iconst 0), (15, .ireturn)]
def za_t19 : List (Nat × Instr) := [(0, .iload_n 1), (1, .ifCond .le 21), (4, .aload_n 0), (5, .iload_n 1), (6, .invokevirtual 86), (9, .aload_n 0), (10, .getfield 21), (13, .iconst 0), (14, .iaload), (15, .if_icmp .ne 7), (18, .iconst 1), (19, .goto 4), (22, .iconst 0), (23, .ireturn)]
def za_t20 : List (Nat × Instr) := [(0, .ldc 36), (2, .istore_n 2), (3, .iconst 0), (4, .istore_n 3), (5, .iload_n 3), (6, .iload_n 1), (7, .if_icmp .ge 39), (10, .iload_n 3), (11, .bipush 24), (13, .if_icmp .ge 33), (16, .aload_n 0), (17, .aload_n 0), (18, .getfield 21), (21, .iload_n 3), (22, .iaload), (23, .iconst 1), (24, .invokevirtual 64), (27, .iload_n 2), (28, .if_icmp .eq 5), (31, .iconst 0), (32, .ireturn), (33, .aload_n 0), (34, .getfield 21), (37, .iload_n 3), (38, .iaload), (39, .istore_n 2), (40, .iinc 3 1), (43, .goto (-38)), (46, .iconst 1), (47, .ireturn)]
def za_t21 : List (Nat × Instr) := [(0, .iconst 1), (1, .istore_n 2), (2, .iload_n 2), (3, .iload_n 1), (4, .if_icmp .ge 42), (7, .iload_n 2), (8, .bipush 24), (10, .if_icmp .ge 36), (13, .aload_n 0), (14, .aload_n 0), (15, .getfield 21), (18, .iload_n 2), (19, .iaload), (20, .invokevirtual 89), (23, .aload_n 0), (24, .aload_n 0), (25, .getfield 21), (28, .iload_n 2), (29, .iconst 1), (30, .isub), (31, .iaload), (32, .invokevirtual 89), (35, .if_icmp .ge 5), (38, .iconst 0), (39, .ireturn), (40, .iinc 2 1), (43, .goto (-41)), (46, .iconst 1), (47, .ireturn)]
def za_t22 : List (Nat × Instr) := [(0, .aload_n 0), (1, .invokevirtual 53), (4, .iload_n 1), (5, .ifCond .le 15), (8, .aload_n 0), (9, .getfield 24), (12, .aload_n 0), (13, .getfield 21), (16, .iconst 0), (17, .iaload), (18, .iconst 1), (19, .bastore), (20, .iconst 0), (21, .istore_n 2), (22, .iload_n 2), (23, .iload_n 1), (24, .if_icmp .ge 70), (27, .iload_n 2), (28, .bipush 24), (30, .if_icmp .ge 64), (33, .iconst 0), (34, .istore_n 3), (35, .iload_n 3), (36, .iconst 2), (37, .if_icmp .ge 51), (40, .aload_n 0), (41, .aload_n 0), (42, .getfield 21), (45, .iload_n 2), (46, .iaload), (47, .iload_n 3), (48, .invokevirtual 64), (51, .istore 4), (53, .aload_n 0), (54, .iload 4), (56, .invokevirtual 43), (59, .ifCond .eq 23), (62, .aload_n 0), (63, .getfield 24), (66, .iload 4), (68, .baload), (69, .ifCond .eq 5), (72, .iconst 0), (73, .ireturn), (74, .aload_n 0), (75, .getfield 24), (78, .iload 4), (80, .iconst 1), (81, .bastore), (82, .iinc 3 1), (85, .goto (-50)), (88, .iinc 2 1), (91, .goto (-69)), (94, .iconst 1), (95, .ireturn)]
def za_t23 : List (Nat × Instr) := [(0, .aload_n 0), (1, .iload_n 1), (2, .iload_n 2), (3, .invokevirtual 67), (6, .istore 4), (8, .iload 4), (10, .aload_n 3), (11, .getfield 32), (14, .if_icmp .eq 5), (17, .iconst 0), (18, .ireturn), (19, .iconst 0), (20, .istore 5), (22, .iload 5), (24, .aload_n 3), (25, .getfield 32), (28, .if_icmp .ge 36), (31, .aload_n 0), (32, .aload_n 3), (33, .iload 5), (35, .invokevirtual 89), (38, .iload 4), (40, .invokevirtual 92), (43, .aload_n 3), (44, .aload_n 3), (45, .iload 5), (47, .invokevirtual 89), (50, .invokevirtual 95), (53, .if_icmp .eq 5), (56, .iconst 0), (57, .ireturn), (58, .iinc 5 1), (61, .goto (-39)), (64, .iconst 1), (65, .ireturn)]
def za_t24 : List (Nat × Instr) := [(0, .iconst 0), (1, .istore_n 3), (2, .iconst 0), (3, .istore 4), (5, .iload 4), (7, .iload_n 2), (8, .if_icmp .ge 34), (11, .iload 4), (13, .bipush 24), (15, .if_icmp .ge 27), (18, .aload_n 0), (19, .aload_n 0), (20, .getfield 21), (23, .iload 4), (25, .iaload), (26, .invokevirtual 89), (29, .iload_n 1), (30, .if_icmp .ne 6), (33, .iinc 3 1), (36, .iinc 4 1), (39, .goto (-34)), (42, .iload_n 3), (43, .ireturn)]
def za_t25 : List (Nat × Instr) := [(0, .iconst 0), (1, .istore_n 2), (2, .iconst 0), (3, .istore_n 3), (4, .iload_n 3), (5, .aload_n 0), (6, .getfield 32), (9, .if_icmp .ge 21), (12, .aload_n 0), (13, .iload_n 3), (14, .invokevirtual 89), (17, .iload_n 1), (18, .if_icmp .ne 6), (21, .iinc 2 1), (24, .iinc 3 1), (27, .goto (-23)), (30, .iload_n 2), (31, .ireturn)]
def za_t26 : List (Nat × Instr) := []
def za_t27 : List (Nat × Instr) := [(0, .iload_n 0), (1, .ifCond .lt 9), (4, .iload_n 0), (5, .bipush 10), (7, .if_icmp .le 5), (10, .iconst 0), (11, .ireturn), (12, .iconst 3), (13, .iload_n 0), (14, .imul), (15, .istore 4), (17, .getstatic 35), (20, .iload 4), (22, .iaload), (23, .iload_n 1), (24, .invokestatic 38), (27, .ifCond .eq 37), (30, .getstatic 35), (33, .iload 4), (35, .iconst 1), (36, .iadd), (37, .iaload), (38, .iload_n 2), (39, .invokestatic 38), (42, .ifCond .eq 22), (45, .getstatic 35), (48, .iload 4), (50, .iconst 2), (51, .iadd), (52, .iaload), (53, .iload_n 3), (54, .invokestatic 38), (57, .ifCond .eq 7), (60, .iconst 1), (61, .goto 4), (64, .iconst 0), (65, .ireturn)]
def za_t28 : List (Nat × Instr) := [(0, .iload_n 0), (1, .tableswitch 53 1 3 #[27, 32, 37]), (28, .iload_n 1), (29, .invokestatic 42), (32, .ireturn), (33, .iload_n 1), (34, .invokestatic 46), (37, .ireturn), (38, .iload_n 1), (39, .ifCond .lt 13), (42, .iload_n 1), (43, .bipush 60), (45, .if_icmp .ge 7), (48, .iconst 1), (49, .goto 4), (52, .iconst 0), (53, .ireturn), (54, .iconst 1), (55, .ireturn)]
def za_t29 : List (Nat × Instr) := [(0, .aload_n 0), (1, .getfield 24), (4, .bipush 60), (6, .if_icmp .lt 6), (9, .bipush (-3)), (11, .ireturn), (12, .aload_n 0), (13, .getfield 24), (16, .istore 5), (18, .aload_n 0), (19, .dup), (20, .getfield 24), (23, .iconst 1), (24, .iadd), (25, .putfield 24), (28, .aload_n 0), (29, .getfield 9), (32, .iload 5), (34, .iload_n 1), (35, .iastore), (36, .aload_n 0), (37, .getfield 15), (40, .iload 5), (42, .iload_n 2), (43, .iastore), (44, .aload_n 0), (45, .getfield 18), (48, .iload 5), (50, .iload_n 3), (51, .iastore), (52, .aload_n 0), (53, .getfield 21), (56, .iload 5), (58, .iload 4), (60, .iastore), (61, .iload 5), (63, .ireturn)]
def za_t30 : List (Nat × Instr) := [(0, .aload_n 0), (1, .getfield 24), (4, .istore_n 1), (5, .aload_n 0), (6, .iconst 0), (7, .putfield 24), (10, .iload_n 1), (11, .ireturn)]
def za_t31 : List (Nat × Instr) := [(0, .aload_n 0), (1, .getfield 24), (4, .ireturn)]
def za_t32 : List (Nat × Instr) := [(0, .aload_n 0), (1, .getfield 28), (4, .ireturn)]
def za_t33 : List (Nat × Instr) := [(0, .aload_n 0), (1, .getfield 32), (4, .ireturn)]
def za_t34 : List (Nat × Instr) := [(0, .aload_n 0), (1, .iconst 0), (2, .putfield 28), (5, .aload_n 0), (6, .ldc 31), (8, .putfield 32), (11, .iconst 0), (12, .istore_n 2), (13, .iconst 0), (14, .istore_n 3), (15, .iload_n 3), (16, .sipush 500), (19, .if_icmp .ge 50), (22, .aload_n 0), (23, .iload_n 2), (24, .invokevirtual 49), (27, .ifCond .ne 5), (30, .iconst 0), (31, .ireturn), (32, .aload_n 0), (33, .iload_n 2), (34, .putfield 32), (37, .aload_n 0), (38, .dup), (39, .getfield 28), (42, .iconst 1), (43, .iadd), (44, .putfield 28), (47, .aload_n 0), (48, .iload_n 2), (49, .aload_n 1), (50, .invokevirtual 52), (53, .istore_n 2), (54, .iload_n 2), (55, .ifCond .ge 8), (58, .iload_n 2), (59, .invokestatic 56), (62, .ireturn), (63, .iinc 3 1), (66, .goto (-51)), (69, .aload_n 0), (70, .iload_n 2), (71, .invokevirtual 49), (74, .ifCond .eq 7), (77, .iconst 2), (78, .goto 4), (81, .iconst 0), (82, .ireturn)]
def za_t35 : List (Nat × Instr) := [(0, .iload_n 1), (1, .ifCond .lt 15), (4, .iload_n 1), (5, .aload_n 0), (6, .getfield 24), (9, .if_icmp .ge 7), (12, .iconst 1), (13, .goto 4), (16, .iconst 0), (17, .ireturn)]
def za_t36 : List (Nat × Instr) := [(0, .iconst (-1)), (1, .iload_n 0), (2, .isub), (3, .ireturn)]
def za_t37 : List (Nat × Instr) := [(0, .iconst (-1)), (1, .iload_n 0), (2, .isub), (3, .ireturn)]
def za_t38 : List (Nat × Instr) := [(0, .aload_n 0), (1, .iload_n 1), (2, .invokevirtual 49), (5, .ifCond .ne 8), (8, .iconst 0), (9, .invokestatic 60), (12, .ireturn), (13, .aload_n 0), (14, .getfield 15), (17, .iload_n 1), (18, .iaload), (19, .istore_n 3), (20, .aload_n 0), (21, .getfield 18), (24, .iload_n 1), (25, .iaload), (26, .istore 4), (28, .aload_n 0), (29, .getfield 21), (32, .iload_n 1), (33, .iaload), (34, .istore 5), (36, .iload_n 1), (37, .iconst 1), (38, .iadd), (39, .istore 6), (41, .aload_n 0), (42, .getfield 9), (45, .iload_n 1), (46, .iaload), (47, .tableswitch 175 0 9 #[53, 63, 73, 87, 99, 111, 129, 151, 163, 165]), (100, .aload_n 2), (101, .iload_n 3), (102, .iload 4), (104, .iload 6), (106, .invokestatic 63), (109, .ireturn), (110, .aload_n 2), (111, .iload_n 3), (112, .ldc 31), (114, .invokevirtual 67), (117, .iload 6), (119, .ireturn), (120, .aload_n 2), (121, .iload_n 3), (122, .aload_n 2), (123, .iload 4), (125, .invokevirtual 73), (128, .invokevirtual 67), (131, .iload 6), (133, .ireturn), (134, .aload_n 2), (135, .iload_n 3), (136, .iload 4), (138, .iload 5), (140, .iload 6), (142, .invokestatic 76), (145, .ireturn), (146, .aload_n 2), (147, .iload_n 3), (148, .iload 4), (150, .iload 5), (152, .iload 6), (154, .invokestatic 80), (157, .ireturn), (158, .aload_n 2), (159, .iload_n 3), (160, .invokevirtual 73), (163, .ldc 31), (165, .if_icmp .ne 8), (168, .iload 4), (170, .goto 5), (173, .iload 6), (175, .ireturn), (176, .aload_n 2), (177, .iload_n 3), (178, .invokevirtual 73), (181, .aload_n 2), (182, .iload 4), (184, .invokevirtual 73), (187, .if_icmp .ne 8), (190, .iload 5), (192, .goto 5), (195, .iload 6), (197, .ireturn), (198, .aload_n 2), (199, .iload_n 3), (200, .iload 4), (202, .iload 5), (204, .iload 6), (206, .invokestatic 83), (209, .ireturn), (210, .iload_n 3), (211, .ireturn), (212, .aload_n 2), (213, .iload_n 3), (214, .iload 4), (216, .iload 6), (218, .invokestatic 86), (221, .ireturn), (222, .iconst 0), (223, .invokestatic 60), (226, .ireturn)]
def za_t39 : List (Nat × Instr) := [(0, .aload_n 0), (1, .iload_n 2), (2, .invokevirtual 89), (5, .istore 4), (7, .iload 4), (9, .bipush (-3)), (11, .if_icmp .ne 8), (14, .iconst 3), (15, .invokestatic 60), (18, .ireturn), (19, .aload_n 0), (20, .iload_n 1), (21, .iload 4), (23, .invokevirtual 67), (26, .iload_n 3), (27, .ireturn)]
def za_t40 : List (Nat × Instr) := [(0, .aload_n 0), (1, .iload_n 2), (2, .invokevirtual 73), (5, .istore 5), (7, .iload 5), (9, .ldc 31), (11, .if_icmp .ne 8), (14, .iconst 1), (15, .invokestatic 60), (18, .ireturn), (19, .aload_n 0), (20, .iload_n 1), (21, .aload_n 0), (22, .iload 5), (24, .iload_n 3), (25, .invokevirtual 92), (28, .invokevirtual 67), (31, .iload 4), (33, .ireturn)]
def za_t41 : List (Nat × Instr) := [(0, .aload_n 0), (1, .iload_n 1), (2, .invokevirtual 73), (5, .istore 5), (7, .iload 5), (9, .ldc 31), (11, .if_icmp .ne 8), (14, .iconst 1), (15, .invokestatic 60), (18, .ireturn), (19, .aload_n 0), (20, .iload 5), (22, .iload_n 2), (23, .aload_n 0), (24, .iload_n 3), (25, .invokevirtual 73), (28, .invokevirtual 96), (31, .iload 4), (33, .ireturn)]
def za_t42 : List (Nat × Instr) := [(0, .aload_n 0), (1, .iload_n 1), (2, .invokevirtual 73), (5, .istore 5), (7, .aload_n 0), (8, .iload_n 2), (9, .invokevirtual 73), (12, .istore 6), (14, .iload 5), (16, .ldc 31), (18, .if_icmp .eq 10), (21, .iload 6), (23, .ldc 31), (25, .if_icmp .ne 8), (28, .iconst 1), (29, .invokestatic 60), (32, .ireturn), (33, .aload_n 0), (34, .iload 5), (36, .invokevirtual 100), (39, .aload_n 0), (40, .iload 6), (42, .invokevirtual 100), (45, .if_icmp .ge 7), (48, .iload_n 3), (49, .goto 5), (52, .iload 4), (54, .ireturn)]
def za_t43 : List (Nat × Instr) := [(0, .aload_n 0), (1, .iload_n 1), (2, .invokevirtual 73), (5, .istore 4), (7, .iload 4), (9, .ldc 31), (11, .if_icmp .ne 8), (14, .iconst 1), (15, .invokestatic 60), (18, .ireturn), (19, .aload_n 0), (20, .iload 4), (22, .iload_n 2), (23, .invokevirtual 103), (26, .iload_n 3), (27, .ireturn)]
def za_t44 : List (Nat × Instr) := []
def za_t45 : List (Nat × Instr) := [(0, .iload_n 0), (1, .iconst 3), (2, .if_icmp .ne 7), (5, .iconst 1), (6, .goto 4), (9, .iconst 0), (10, .ireturn)]
def za_t46 : List (Nat × Instr) := [(0, .iload_n 0), (1, .iconst 4), (2, .if_icmp .ne 7), (5, .iconst 4), (6, .goto 4), (9, .iconst 3), (10, .istore_n 2), (11, .iconst 1), (12, .istore_n 3), (13, .iconst 0), (14, .istore 4), (16, .iload 4), (18, .iload_n 1), (19, .if_icmp .ge 13), (22, .iload_n 3), (23, .iload_n 2), (24, .imul), (25, .istore_n 3), (26, .iinc 4 1), (29, .goto (-13)), (32, .iload_n 3), (33, .ireturn)]
def za_t47 : List (Nat × Instr) := [(0, .aload_n 1), (1, .invokevirtual 15), (4, .pop), (5, .iload_n 3), (6, .iconst 4), (7, .if_icmp .ne 15), (10, .aload_n 0), (11, .aload_n 1), (12, .iload 4), (14, .iload 5), (16, .invokevirtual 21), (19, .goto 12), (22, .aload_n 1), (23, .iload_n 3), (24, .iload 4), (26, .iload 5), (28, .invokestatic 25), (31, .istore 6), (33, .aload_n 1), (34, .iload_n 2), (35, .iload 4), (37, .ifCond .le 7), (40, .iconst 0), (41, .goto 5), (44, .ldc 29), (46, .invokevirtual 30), (49, .iload 6), (51, .ireturn)]
def za_t48 : List (Nat × Instr) := [(0, .iload_n 1), (1, .iload_n 2), (2, .invokestatic 34), (5, .istore 4), (7, .iload_n 3), (8, .istore 5), (10, .iconst 0), (11, .istore 6), (13, .iconst 0), (14, .istore 7), (16, .iload 7), (18, .iload_n 2), (19, .if_icmp .ge 66), (22, .iload 4), (24, .iconst 3), (25, .idiv), (26, .istore 4), (28, .iload 4), (30, .ifCond .le 11), (33, .iload 5), (35, .iload 4), (37, .idiv), (38, .goto 4), (41, .iconst 0), (42, .istore 8), (44, .iload 5), (46, .iload 8), (48, .iload 4), (50, .imul), (51, .isub), (52, .istore 5), (54, .iload_n 1), (55, .iconst 5), (56, .if_icmp .ne 12), (59, .iload 8), (61, .iload 6), (63, .if_icmp .ge 5), (66, .iconst 0), (67, .ireturn), (68, .iload 8), (70, .istore 6), (72, .aload_n 0), (73, .iload 8), (75, .invokevirtual 38), (78, .pop), (79, .iinc 7 1), (82, .goto (-66)), (85, .aload_n 0), (86, .iload_n 1), (87, .iload_n 2), (88, .invokestatic 42), (91, .iconst 1), (92, .ireturn)]
def za_t49 : List (Nat × Instr) := [(0, .iconst 1), (1, .istore_n 3), (2, .iload_n 3), (3, .iload_n 2), (4, .if_icmp .ge 32), (7, .aload_n 0), (8, .iload_n 3), (9, .iconst 1), (10, .isub), (11, .iconst 0), (12, .iload_n 3), (13, .invokevirtual 46), (16, .iload_n 1), (17, .iconst 2), (18, .if_icmp .ne 12), (21, .aload_n 0), (22, .iload_n 3), (23, .iconst 1), (24, .iload_n 3), (25, .iconst 1), (26, .isub), (27, .invokevirtual 46), (30, .iinc 3 1), (33, .goto (-31)), (36, .iload_n 1), (37, .iconst 3), (38, .if_icmp .ne 12), (41, .aload_n 0), (42, .iload_n 2), (43, .iconst 1), (44, .isub), (45, .iconst 0), (46, .iconst 0), (47, .invokevirtual 46), (50, .return_)]
def za_t50 : List (Nat × Instr) := [(0, .iconst 0), (1, .istore 4), (3, .iconst 0), (4, .istore 5), (6, .iload 5), (8, .iload_n 2), (9, .if_icmp .ge 70), (12, .aload_n 1), (13, .iconst 0), (14, .invokevirtual 38), (17, .pop), (18, .iload 5), (20, .ifCond .le 36), (23, .iload 4), (25, .ifCond .gt 5), (28, .iconst 0), (29, .ireturn), (30, .iinc 4 (-1)), (33, .aload_n 0), (34, .getfield 9), (37, .iload 4), (39, .iaload), (40, .istore 6), (42, .aload_n 1), (43, .iload 6), (45, .iconst 2), (46, .idiv), (47, .iload 6), (49, .iconst 2), (50, .irem), (51, .iload 5), (53, .invokevirtual 46), (56, .aload_n 0), (57, .iload 5), (59, .iload_n 3), (60, .iload_n 2), (61, .iload 5), (63, .invokestatic 50), (66, .iload 4), (68, .invokevirtual 54), (71, .istore 4), (73, .iinc 5 1), (76, .goto (-70)), (79, .iload 4), (81, .ifCond .ne 7), (84, .iconst 1), (85, .goto 4), (88, .iconst 0), (89, .ireturn)]
def za_t51 : List (Nat × Instr) := [(0, .iload_n 0), (1, .iconst 2), (2, .iload_n 1), (3, .iconst 1), (4, .isub), (5, .iload_n 2), (6, .isub), (7, .imul), (8, .ishr), (9, .iconst 3), (10, .iand), (11, .ireturn)]
def za_t52 : List (Nat × Instr) := [(0, .iload_n 3), (1, .istore 4), (3, .iload_n 2), (4, .iconst 1), (5, .iand), (6, .ifCond .eq 16), (9, .aload_n 0), (10, .iconst 2), (11, .iload_n 1), (12, .imul), (13, .iconst 1), (14, .iadd), (15, .iload 4), (17, .invokevirtual 57), (20, .istore 4), (22, .iload_n 2), (23, .iconst 2), (24, .iand), (25, .ifCond .eq 14), (28, .aload_n 0), (29, .iconst 2), (30, .iload_n 1), (31, .imul), (32, .iload 4), (34, .invokevirtual 57), (37, .istore 4), (39, .iload 4), (41, .ireturn)]
def za_t53 : List (Nat × Instr) := [(0, .iload_n 2), (1, .ifCond .lt 12), (4, .iload_n 2), (5, .aload_n 0), (6, .getfield 9), (9, .arraylength), (10, .if_icmp .lt 5), (13, .iload_n 2), (14, .ireturn), (15, .aload_n 0), (16, .getfield 9), (19, .iload_n 2), (20, .iload_n 1), (21, .iastore), (22, .iload_n 2), (23, .iconst 1), (24, .iadd), (25, .ireturn)]
def za_t54 : List (Nat × Instr) := []
def za_t55 : List (Nat × Instr) := [(0, .iload_n 1), (1, .iload_n 2), (2, .iload_n 3), (3, .iload 4), (5, .invokestatic 40), (8, .ifCond .ne 5), (11, .iconst (-1)), (12, .ireturn), (13, .aload_n 0), (14, .getfield 10), (17, .iload_n 1), (18, .iload_n 2), (19, .iload_n 3), (20, .iload 4), (22, .invokevirtual 44), (25, .ireturn)]
def za_t56 : List (Nat × Instr) := [(0, .aload_n 0), (1, .getfield 10), (4, .invokevirtual 48), (7, .ireturn)]
def za_t57 : List (Nat × Instr) := [(0, .aload_n 0), (1, .getfield 19), (4, .invokevirtual 52), (7, .ireturn)]
def za_t58 : List (Nat × Instr) := [(0, .aload_n 0), (1, .getfield 19), (4, .iload_n 1), (5, .invokevirtual 53), (8, .ireturn)]
def za_t59 : List (Nat × Instr) := [(0, .aload_n 0), (1, .getfield 19), (4, .iload_n 1), (5, .invokevirtual 56), (8, .ifCond .eq 21), (11, .iload_n 2), (12, .invokestatic 60), (15, .ifCond .eq 14), (18, .aload_n 0), (19, .getfield 19), (22, .iload_n 3), (23, .invokevirtual 63), (26, .ifCond .ne 5), (29, .iconst (-1)), (30, .ireturn), (31, .aload_n 0), (32, .getfield 19), (35, .iload_n 1), (36, .iload_n 2), (37, .iload_n 3), (38, .invokevirtual 66), (41, .iconst 0), (42, .ireturn)]
def za_t60 : List (Nat × Instr) := [(0, .iload_n 1), (1, .invokestatic 70), (4, .ifCond .eq 14), (7, .aload_n 0), (8, .getfield 19), (11, .iload_n 2), (12, .invokevirtual 63), (15, .ifCond .ne 5), (18, .iconst (-1)), (19, .ireturn), (20, .aload_n 0), (21, .getfield 19), (24, .iload_n 1), (25, .iload_n 2), (26, .invokevirtual 73), (29, .iconst 0), (30, .ireturn)]
def za_t61 : List (Nat × Instr) := [(0, .aload_n 0), (1, .getfield 10), (4, .aload_n 0), (5, .getfield 19), (8, .invokevirtual 77), (11, .ireturn)]
def za_t62 : List (Nat × Instr) := [(0, .iload_n 1), (1, .lookupswitch 43 #[(0, 27), (1, 35)]), (28, .aload_n 0), (29, .getfield 10), (32, .invokevirtual 81), (35, .ireturn), (36, .aload_n 0), (37, .getfield 10), (40, .invokevirtual 84), (43, .ireturn), (44, .iconst (-1)), (45, .ireturn)]
def za_t63 : List (Nat × Instr) := [(0, .iload_n 1), (1, .invokestatic 70), (4, .ifCond .eq 14), (7, .aload_n 0), (8, .getfield 19), (11, .iload_n 1), (12, .invokevirtual 87), (15, .goto 4), (18, .iconst (-1)), (19, .ireturn)]
def za_t64 : List (Nat × Instr) := [(0, .aload_n 0), (1, .getfield 19), (4, .iload_n 1), (5, .invokevirtual 56), (8, .ifCond .ne 5), (11, .iconst (-1)), (12, .ireturn), (13, .iload_n 2), (14, .invokestatic 60), (17, .ifCond .eq 13), (20, .aload_n 0), (21, .getfield 19), (24, .iload_n 1), (25, .iload_n 2), (26, .invokevirtual 90), (29, .ireturn), (30, .iload_n 2), (31, .iconst 2), (32, .if_icmp .ne 14), (35, .aload_n 0), (36, .getfield 19), (39, .iload_n 1), (40, .invokevirtual 94), (43, .goto 4), (46, .iconst (-1)), (47, .ireturn)]
def za_t65 : List (Nat × Instr) := [(0, .iload_n 1), (1, .invokestatic 70), (4, .ifCond .eq 10), (7, .iload_n 2), (8, .invokestatic 97), (11, .ifCond .ne 5), (14, .iconst (-1)), (15, .ireturn), (16, .aload_n 0), (17, .getfield 19), (20, .iload_n 1), (21, .iload_n 2), (22, .invokevirtual 100), (25, .ifCond .eq 7), (28, .iconst 1), (29, .goto 4), (32, .iconst 0), (33, .ireturn)]
def za_t66 : List (Nat × Instr) := [(0, .iload_n 1), (1, .invokestatic 70), (4, .ifCond .eq 15), (7, .aload_n 0), (8, .getfield 19), (11, .iload_n 1), (12, .iload_n 2), (13, .invokevirtual 104), (16, .goto 4), (19, .iconst (-1)), (20, .ireturn)]
def za_t67 : List (Nat × Instr) := [(0, .iload_n 1), (1, .invokestatic 70), (4, .ifCond .eq 26), (7, .iload 4), (9, .invokestatic 70), (12, .ifCond .eq 18), (15, .iload_n 2), (16, .invokestatic 108), (19, .ifCond .eq 11), (22, .iload 5), (24, .invokestatic 97), (27, .ifCond .ne 5), (30, .iconst (-1)), (31, .ireturn), (32, .iload_n 3), (33, .ifCond .lt 8), (36, .iload_n 3), (37, .iconst 5), (38, .if_icmp .le 5), (41, .iconst (-1)), (42, .ireturn), (43, .aload_n 0), (44, .iconst 0), (45, .putfield 36), (48, .iconst 0), (49, .istore 7), (51, .iload_n 2), (52, .invokestatic 111), (55, .istore 8), (57, .iload 8), (59, .iload_n 3), (60, .if_icmp .gt 97), (63, .iload_n 2), (64, .iload 8), (66, .invokestatic 114), (69, .istore 9), (71, .iconst 0), (72, .istore 10), (74, .iload 10), (76, .iload 9), (78, .if_icmp .ge 73), (81, .aload_n 0), (82, .getfield 26), (85, .aload_n 0), (86, .getfield 30), (89, .iload_n 1), (90, .iload_n 2), (91, .iload 8), (93, .iload 10), (95, .invokevirtual 117), (98, .ifCond .ne 6), (101, .goto 44), (104, .aload_n 0), (105, .aload_n 0), (106, .iload 4), (108, .iload 5), (110, .iload 6), (112, .invokevirtual 121), (115, .putfield 36), (118, .aload_n 0), (119, .getfield 36), (122, .ifCond .eq 20), (125, .aload_n 0), (126, .getfield 19), (129, .aload_n 0), (130, .getfield 30), (133, .invokevirtual 125), (136, .bipush (-10)), (138, .iload 7), (140, .isub), (141, .ireturn), (142, .iinc 7 1), (145, .iinc 10 1), (148, .goto (-74)), (151, .iinc 8 1), (154, .goto (-97)), (157, .iload 7), (159, .ireturn)]
def za_t68 : List (Nat × Instr) := [(0, .aload_n 0), (1, .getfield 36), (4, .ireturn)]
def za_t69 : List (Nat × Instr) := [(0, .iload_n 1), (1, .lookupswitch 43 #[(0, 27), (1, 35)]), (28, .aload_n 0), (29, .getfield 19), (32, .invokevirtual 129), (35, .ireturn), (36, .aload_n 0), (37, .getfield 10), (40, .invokevirtual 132), (43, .ireturn), (44, .iconst (-1)), (45, .ireturn)]
def za_t70 : List (Nat × Instr) := [(0, .aload_n 0), (1, .getfield 33), (4, .aload_n 0), (5, .getfield 30), (8, .invokevirtual 125), (11, .aload_n 0), (12, .getfield 10), (15, .aload_n 0), (16, .getfield 33), (19, .invokevirtual 77), (22, .istore 4), (24, .iload 4), (26, .ifCond .eq 6), (29, .iload 4), (31, .ireturn), (32, .aload_n 0), (33, .getfield 33), (36, .iload_n 1), (37, .iload_n 2), (38, .invokevirtual 100), (41, .ifCond .ne 5), (44, .iconst 4), (45, .ireturn), (46, .iload_n 3), (47, .ifCond .eq 30), (50, .aload_n 0), (51, .getfield 33), (54, .iload_n 1), (55, .iload_n 2), (56, .iconst 4), (57, .if_icmp .ne 7), (60, .iconst 1), (61, .goto 4), (64, .iconst 0), (65, .aload_n 0), (66, .getfield 30), (69, .invokevirtual 135), (72, .ifCond .ne 5), (75, .iconst 5), (76, .ireturn), (77, .iconst 0), (78, .ireturn)]
def za_t71 : List (Nat × Instr) := [(0, .iload_n 0), (1, .ifCond .lt 13), (4, .iload_n 0), (5, .bipush 8), (7, .if_icmp .ge 7), (10, .iconst 1), (11, .goto 4), (14, .iconst 0), (15, .ireturn)]
def za_t72 : List (Nat × Instr) := [(0, .iload_n 0), (1, .ifCond .lt 12), (4, .iload_n 0), (5, .iconst 2), (6, .if_icmp .ge 7), (9, .iconst 1), (10, .goto 4), (13, .iconst 0), (14, .ireturn)]
def za_t73 : List (Nat × Instr) := [(0, .iload_n 0), (1, .ifCond .lt 13), (4, .iload_n 0), (5, .bipush 6), (7, .if_icmp .gt 7), (10, .iconst 1), (11, .goto 4), (14, .iconst 0), (15, .ireturn)]
def za_t74 : List (Nat × Instr) := [(0, .iload_n 0), (1, .iconst 1), (2, .if_icmp .lt 12), (5, .iload_n 0), (6, .iconst 5), (7, .if_icmp .gt 7), (10, .iconst 1), (11, .goto 4), (14, .iconst 0), (15, .ireturn)]
def za_t75 : List (Nat × Instr) := []
def za_t76 : List (Nat × Instr) := [(0, .iload_n 0), (1, .iload_n 1), (2, .if_icmp .lt 12), (5, .iload_n 0), (6, .iload_n 2), (7, .if_icmp .gt 7), (10, .iconst 1), (11, .goto 4), (14, .iconst 0), (15, .ireturn)]
def za_t77 : List (Nat × Instr) := [(0, .iload_n 1), (1, .iconst 0), (2, .aload_n 0), (3, .getfield 61), (6, .iconst 1), (7, .isub), (8, .invokestatic 64), (11, .ireturn)]
def za_t78 : List (Nat × Instr) := [(0, .iload_n 0), (1, .iconst 0), (2, .bipush 7), (4, .invokestatic 64), (7, .ireturn)]
def za_t79 : List (Nat × Instr) := [(0, .iload_n 1), (1, .invokestatic 68), (4, .istore 4), (6, .iload_n 0), (7, .tableswitch 191 0 10 #[57, 57, 60, 78, 105, 132, 153, 153, 181, 57, 189]), (64, .iload 4), (66, .ireturn), (67, .iload 4), (69, .ifCond .eq 14), (72, .iload_n 2), (73, .invokestatic 68), (76, .ifCond .eq 7), (79, .iconst 1), (80, .goto 4), (83, .iconst 0), (84, .ireturn), (85, .iload 4), (87, .ifCond .eq 23), (90, .iload_n 2), (91, .invokestatic 68), (94, .ifCond .eq 16), (97, .iload_n 3), (98, .iconst 0), (99, .iconst 1), (100, .invokestatic 64), (103, .ifCond .eq 7), (106, .iconst 1), (107, .goto 4), (110, .iconst 0), (111, .ireturn), (112, .iload 4), (114, .ifCond .eq 23), (117, .iload_n 2), (118, .iconst 0), (119, .iconst 1), (120, .invokestatic 64), (123, .ifCond .eq 14), (126, .iload_n 3), (127, .invokestatic 68), (130, .ifCond .eq 7), (133, .iconst 1), (134, .goto 4), (137, .iconst 0), (138, .ireturn), (139, .iload 4), (141, .ifCond .eq 17), (144, .iload_n 2), (145, .iconst 0), (146, .bipush 59), (148, .invokestatic 64), (151, .ifCond .eq 7), (154, .iconst 1), (155, .goto 4), (158, .iconst 0), (159, .ireturn), (160, .iload 4), (162, .ifCond .eq 24), (165, .iload_n 2), (166, .invokestatic 68), (169, .ifCond .eq 17), (172, .iload_n 3), (173, .iconst 0), (174, .bipush 59), (176, .invokestatic 64), (179, .ifCond .eq 7), (182, .iconst 1), (183, .goto 4), (186, .iconst 0), (187, .ireturn), (188, .iload_n 1), (189, .iconst 0), (190, .bipush 59), (192, .invokestatic 64), (195, .ireturn), (196, .iconst 1), (197, .ireturn), (198, .iconst 0), (199, .ireturn)]
def za_t80 : List (Nat × Instr) := [(0, .iload_n 1), (1, .iload_n 2), (2, .iload_n 3), (3, .iload 4), (5, .invokestatic 72), (8, .ifCond .ne 5), (11, .iconst (-1)), (12, .ireturn), (13, .aload_n 0), (14, .getfield 76), (17, .bipush 60), (19, .if_icmp .ne 6), (22, .bipush (-3)), (24, .ireturn), (25, .aload_n 0), (26, .getfield 19), (29, .aload_n 0), (30, .getfield 76), (33, .iload_n 1), (34, .iastore), (35, .aload_n 0), (36, .getfield 22), (39, .aload_n 0), (40, .getfield 76), (43, .iload_n 2), (44, .iastore), (45, .aload_n 0), (46, .getfield 25), (49, .aload_n 0), (50, .getfield 76), (53, .iload_n 3), (54, .iastore), (55, .aload_n 0), (56, .getfield 28), (59, .aload_n 0), (60, .getfield 76), (63, .iload 4), (65, .iastore), (66, .aload_n 0), (67, .dup), (68, .getfield 76), (71, .iconst 1), (72, .iadd), (73, .putfield 76), (76, .aload_n 0), (77, .getfield 76), (80, .iconst 1), (81, .isub), (82, .ireturn)]
def za_t81 : List (Nat × Instr) := [(0, .aload_n 0), (1, .getfield 76), (4, .istore_n 1), (5, .aload_n 0), (6, .iconst 0), (7, .putfield 76), (10, .iload_n 1), (11, .ireturn)]
def za_t82 : List (Nat × Instr) := [(0, .aload_n 0), (1, .getfield 61), (4, .istore_n 1), (5, .aload_n 0), (6, .iconst 0), (7, .putfield 61), (10, .iconst 0), (11, .istore_n 2), (12, .iload_n 2), (13, .bipush 8), (15, .if_icmp .ge 17), (18, .aload_n 0), (19, .getfield 16), (22, .iload_n 2), (23, .ldc 31), (25, .iastore), (26, .iinc 2 1), (29, .goto (-17)), (32, .iload_n 1), (33, .ireturn)]
def za_t83 : List (Nat × Instr) := [(0, .aload_n 0), (1, .getfield 61), (4, .bipush 24), (6, .if_icmp .ne 6), (9, .bipush (-3)), (11, .ireturn), (12, .aload_n 0), (13, .getfield 7), (16, .iconst 2), (17, .aload_n 0), (18, .getfield 61), (21, .imul), (22, .ldc 31), (24, .iastore), (25, .aload_n 0), (26, .getfield 7), (29, .iconst 2), (30, .aload_n 0), (31, .getfield 61), (34, .imul), (35, .iconst 1), (36, .iadd), (37, .ldc 31), (39, .iastore), (40, .aload_n 0), (41, .getfield 13), (44, .aload_n 0), (45, .getfield 61), (48, .iload_n 1), (49, .iastore), (50, .aload_n 0), (51, .dup), (52, .getfield 61), (55, .iconst 1), (56, .iadd), (57, .putfield 61), (60, .aload_n 0), (61, .getfield 61), (64, .iconst 1), (65, .isub), (66, .ireturn)]
def za_t84 : List (Nat × Instr) := [(0, .aload_n 0), (1, .iload_n 1), (2, .invokevirtual 79), (5, .ifCond .eq 26), (8, .iload_n 2), (9, .iconst 0), (10, .iconst 1), (11, .invokestatic 64), (14, .ifCond .eq 17), (17, .iload_n 3), (18, .ldc 31), (20, .if_icmp .eq 13), (23, .aload_n 0), (24, .iload_n 3), (25, .invokevirtual 79), (28, .ifCond .ne 5), (31, .iconst (-1)), (32, .ireturn), (33, .aload_n 0), (34, .getfield 7), (37, .iconst 2), (38, .iload_n 1), (39, .imul), (40, .iload_n 2), (41, .iadd), (42, .iload_n 3), (43, .iastore), (44, .iconst 0), (45, .ireturn)]
def za_t85 : List (Nat × Instr) := [(0, .iload_n 1), (1, .invokestatic 68), (4, .ifCond .eq 17), (7, .iload_n 2), (8, .ldc 31), (10, .if_icmp .eq 13), (13, .aload_n 0), (14, .iload_n 2), (15, .invokevirtual 79), (18, .ifCond .ne 5), (21, .iconst (-1)), (22, .ireturn), (23, .aload_n 0), (24, .getfield 16), (27, .iload_n 1), (28, .iload_n 2), (29, .iastore), (30, .iconst 0), (31, .ireturn)]
def za_t86 : List (Nat × Instr) := [(0, .iconst 0), (1, .istore_n 1), (2, .aload_n 0), (3, .iconst 0), (4, .putfield 82), (7, .aload_n 0), (8, .ldc 31), (10, .putfield 32), (13, .iload_n 1), (14, .aload_n 0), (15, .getfield 76), (18, .if_icmp .ge 397), (21, .aload_n 0), (22, .getfield 82), (25, .sipush 500), (28, .if_icmp .ne 5), (31, .iconst 2), (32, .ireturn), (33, .aload_n 0), (34, .dup), (35, .getfield 82), (38, .iconst 1), (39, .iadd), (40, .putfield 82), (43, .aload_n 0), (44, .iload_n 1), (45, .putfield 32), (48, .aload_n 0), (49, .getfield 22), (52, .iload_n 1), (53, .iaload), (54, .istore_n 2), (55, .aload_n 0), (56, .getfield 25), (59, .iload_n 1), (60, .iaload), (61, .istore_n 3), (62, .aload_n 0), (63, .getfield 28), (66, .iload_n 1), (67, .iaload), (68, .istore 4), (70, .iload_n 1), (71, .iconst 1), (72, .iadd), (73, .istore 5), (75, .aload_n 0), (76, .getfield 19), (79, .iload_n 1), (80, .iaload), (81, .tableswitch 326 0 9 #[55, 80, 91, 106, 144, 182, 204, 231, 292, 298]), (136, .aload_n 0), (137, .getfield 61), (140, .bipush 24), (142, .if_icmp .ne 5), (145, .iconst 3), (146, .ireturn), (147, .aload_n 0), (148, .getfield 16), (151, .iload_n 2), (152, .aload_n 0), (153, .iload_n 3), (154, .invokevirtual 85), (157, .iastore), (158, .goto 251), (161, .aload_n 0), (162, .getfield 16), (165, .iload_n 2), (166, .ldc 31), (168, .iastore), (169, .goto 240), (172, .aload_n 0), (173, .getfield 16), (176, .iload_n 2), (177, .aload_n 0), (178, .getfield 16), (181, .iload_n 3), (182, .iaload), (183, .iastore), (184, .goto 225), (187, .aload_n 0), (188, .getfield 16), (191, .iload_n 3), (192, .iaload), (193, .ldc 31), (195, .if_icmp .ne 5), (198, .iconst 1), (199, .ireturn), (200, .aload_n 0), (201, .getfield 16), (204, .iload_n 2), (205, .aload_n 0), (206, .getfield 7), (209, .iconst 2), (210, .aload_n 0), (211, .getfield 16), (214, .iload_n 3), (215, .iaload), (216, .imul), (217, .iload 4), (219, .iadd), (220, .iaload), (221, .iastore), (222, .goto 187), (225, .aload_n 0), (226, .getfield 16), (229, .iload_n 2), (230, .iaload), (231, .ldc 31), (233, .if_icmp .ne 5), (236, .iconst 1), (237, .ireturn), (238, .aload_n 0), (239, .getfield 7), (242, .iconst 2), (243, .aload_n 0), (244, .getfield 16), (247, .iload_n 2), (248, .iaload), (249, .imul), (250, .iload_n 3), (251, .iadd), (252, .aload_n 0), (253, .getfield 16), (256, .iload 4), (258, .iaload), (259, .iastore), (260, .goto 149), (263, .aload_n 0), (264, .getfield 16), (267, .iload_n 2), (268, .iaload), (269, .ldc 31), (271, .if_icmp .ne 7), (274, .iload_n 3), (275, .goto 5), (278, .iload 5), (280, .istore 5), (282, .goto 127), (285, .aload_n 0), (286, .getfield 16), (289, .iload_n 2), (290, .iaload), (291, .aload_n 0), (292, .getfield 16), (295, .iload_n 3), (296, .iaload), (297, .if_icmp .ne 8), (300, .iload 4), (302, .goto 5), (305, .iload 5), (307, .istore 5), (309, .goto 100), (312, .aload_n 0), (313, .getfield 16), (316, .iload_n 2), (317, .iaload), (318, .ldc 31), (320, .if_icmp .eq 14), (323, .aload_n 0), (324, .getfield 16), (327, .iload_n 3), (328, .iaload), (329, .ldc 31), (331, .if_icmp .ne 5), (334, .iconst 1), (335, .ireturn), (336, .aload_n 0), (337, .getfield 13), (340, .aload_n 0), (341, .getfield 16), (344, .iload_n 2), (345, .iaload), (346, .iaload), (347, .aload_n 0), (348, .getfield 13), (351, .aload_n 0), (352, .getfield 16), (355, .iload_n 3), (356, .iaload), (357, .iaload), (358, .if_icmp .ge 8), (361, .iload 4), (363, .goto 5), (366, .iload 5), (368, .istore 5), (370, .goto 39), (373, .iload_n 2), (374, .istore 5), (376, .goto 33), (379, .aload_n 0), (380, .getfield 16), (383, .iload_n 2), (384, .iaload), (385, .ldc 31), (387, .if_icmp .ne 5), (390, .iconst 1), (391, .ireturn), (392, .aload_n 0), (393, .getfield 13), (396, .aload_n 0), (397, .getfield 16), (400, .iload_n 2), (401, .iaload), (402, .iload_n 3), (403, .iastore), (404, .goto 5), (407, .iconst 0), (408, .ireturn), (409, .iload 5), (411, .istore_n 1), (412, .goto (-399)), (415, .iconst 0), (416, .ireturn)]
def za_t87 : List (Nat × Instr) := [(0, .iload_n 1), (1, .ifCond .ne 10), (4, .aload_n 0), (5, .getfield 82), (8, .goto 16), (11, .iload_n 1), (12, .iconst 1), (13, .if_icmp .ne 10), (16, .aload_n 0), (17, .getfield 32), (20, .goto 4), (23, .iconst (-1)), (24, .ireturn)]
def za_t88 : List (Nat × Instr) := [(0, .iload_n 1), (1, .invokestatic 68), (4, .ifCond .eq 12), (7, .aload_n 0), (8, .getfield 16), (11, .iload_n 1), (12, .iaload), (13, .goto 4), (16, .iconst (-1)), (17, .ireturn)]
def za_t89 : List (Nat × Instr) := [(0, .aload_n 0), (1, .iload_n 1), (2, .invokevirtual 79), (5, .ifCond .eq 12), (8, .iload_n 2), (9, .iconst 0), (10, .iconst 2), (11, .invokestatic 64), (14, .ifCond .ne 5), (17, .iconst (-1)), (18, .ireturn), (19, .iload_n 2), (20, .iconst 2), (21, .if_icmp .ne 12), (24, .aload_n 0), (25, .getfield 13), (28, .iload_n 1), (29, .iaload), (30, .goto 13), (33, .aload_n 0), (34, .getfield 7), (37, .iconst 2), (38, .iload_n 1), (39, .imul), (40, .iload_n 2), (41, .iadd), (42, .iaload), (43, .ireturn)]
def za_t90 : List (Nat × Instr) := [(0, .iconst 0), (1, .istore_n 3), (2, .iload_n 3), (3, .bipush 24), (5, .if_icmp .ge 16), (8, .aload_n 0), (9, .getfield 36), (12, .iload_n 3), (13, .iconst 0), (14, .bastore), (15, .iinc 3 1), (18, .goto (-16)), (21, .aload_n 0), (22, .iconst 0), (23, .putfield 89), (26, .iload_n 1), (27, .ldc 31), (29, .if_icmp .eq 22), (32, .aload_n 0), (33, .getfield 36), (36, .iload_n 1), (37, .iconst 1), (38, .bastore), (39, .aload_n 0), (40, .getfield 40), (43, .iconst 0), (44, .iload_n 1), (45, .iastore), (46, .aload_n 0), (47, .iconst 1), (48, .putfield 89), (51, .iconst 0), (52, .istore_n 3), (53, .iload_n 3), (54, .aload_n 0), (55, .getfield 89), (58, .if_icmp .ge 96), (61, .iconst 0), (62, .istore 4), (64, .iload 4), (66, .iload_n 2), (67, .ifCond .eq 7), (70, .iconst 2), (71, .goto 4), (74, .iconst 1), (75, .if_icmp .ge 73), (78, .aload_n 0), (79, .getfield 7), (82, .iconst 2), (83, .aload_n 0), (84, .getfield 40), (87, .iload_n 3), (88, .iaload), (89, .imul), (90, .iload 4), (92, .iadd), (93, .iaload), (94, .istore 5), (96, .iload 5), (98, .ldc 31), (100, .if_icmp .eq 42), (103, .aload_n 0), (104, .getfield 36), (107, .iload 5), (109, .baload), (110, .ifCond .ne 32), (113, .aload_n 0), (114, .getfield 36), (117, .iload 5), (119, .iconst 1), (120, .bastore), (121, .aload_n 0), (122, .getfield 40), (125, .aload_n 0), (126, .getfield 89), (129, .iload 5), (131, .iastore), (132, .aload_n 0), (133, .dup), (134, .getfield 89), (137, .iconst 1), (138, .iadd), (139, .putfield 89), (142, .iinc 4 1), (145, .goto (-81)), (148, .iinc 3 1), (151, .goto (-98)), (154, .return_)]
def za_t91 : List (Nat × Instr) := [(0, .aload_n 0), (1, .iload_n 1), (2, .iconst 0), (3, .invokevirtual 92), (6, .aload_n 0), (7, .getfield 89), (10, .ifCond .eq 26), (13, .aload_n 0), (14, .getfield 7), (17, .iconst 2), (18, .aload_n 0), (19, .getfield 40), (22, .aload_n 0), (23, .getfield 89), (26, .iconst 1), (27, .isub), (28, .iaload), (29, .imul), (30, .iaload), (31, .ldc 31), (33, .if_icmp .ne 7), (36, .iconst 1), (37, .goto 4), (40, .iconst 0), (41, .ireturn)]
def za_t92 : List (Nat × Instr) := [(0, .aload_n 0), (1, .iload_n 1), (2, .invokevirtual 96), (5, .istore_n 2), (6, .iconst 0), (7, .istore_n 3), (8, .iload_n 3), (9, .aload_n 0), (10, .getfield 89), (13, .if_icmp .ge 54), (16, .iload_n 2), (17, .ifCond .eq 50), (20, .aload_n 0), (21, .getfield 7), (24, .iconst 2), (25, .aload_n 0), (26, .getfield 40), (29, .iload_n 3), (30, .iaload), (31, .imul), (32, .iconst 1), (33, .iadd), (34, .iaload), (35, .iload_n 3), (36, .ifCond .ne 8), (39, .ldc 31), (41, .goto 11), (44, .aload_n 0), (45, .getfield 40), (48, .iload_n 3), (49, .iconst 1), (50, .isub), (51, .iaload), (52, .if_icmp .ne 7), (55, .iconst 1), (56, .goto 4), (59, .iconst 0), (60, .istore_n 2), (61, .iinc 3 1), (64, .goto (-56)), (67, .iload_n 2), (68, .ireturn)]
def za_t93 : List (Nat × Instr) := [(0, .aload_n 0), (1, .iload_n 1), (2, .iconst 1), (3, .invokevirtual 92), (6, .iconst 1), (7, .istore_n 2), (8, .iconst 0), (9, .istore_n 3), (10, .iload_n 3), (11, .aload_n 0), (12, .getfield 89), (15, .if_icmp .ge 122), (18, .iload_n 2), (19, .ifCond .eq 118), (22, .iconst 0), (23, .istore 4), (25, .iconst 0), (26, .istore 5), (28, .iload 5), (30, .aload_n 0), (31, .getfield 89), (34, .if_icmp .ge 77), (37, .iload 4), (39, .aload_n 0), (40, .getfield 7), (43, .iconst 2), (44, .aload_n 0), (45, .getfield 40), (48, .iload 5), (50, .iaload), (51, .imul), (52, .iaload), (53, .aload_n 0), (54, .getfield 40), (57, .iload_n 3), (58, .iaload), (59, .if_icmp .ne 7), (62, .iconst 1), (63, .goto 4), (66, .iconst 0), (67, .iadd), (68, .istore 4), (70, .iload 4), (72, .aload_n 0), (73, .getfield 7), (76, .iconst 2), (77, .aload_n 0), (78, .getfield 40), (81, .iload 5), (83, .iaload), (84, .imul), (85, .iconst 1), (86, .iadd), (87, .iaload), (88, .aload_n 0), (89, .getfield 40), (92, .iload_n 3), (93, .iaload), (94, .if_icmp .ne 7), (97, .iconst 1), (98, .goto 4), (101, .iconst 0), (102, .iadd), (103, .istore 4), (105, .iinc 5 1), (108, .goto (-80)), (111, .iload 4), (113, .iload_n 3), (114, .ifCond .ne 7), (117, .iconst 0), (118, .goto 4), (121, .iconst 1), (122, .if_icmp .gt 7), (125, .iconst 1), (126, .goto 4), (129, .iconst 0), (130, .istore_n 2), (131, .iinc 3 1), (134, .goto (-124)), (137, .iload_n 2), (138, .ireturn)]
def za_t94 : List (Nat × Instr) := [(0, .aload_n 0), (1, .iload_n 1), (2, .invokevirtual 96), (5, .istore_n 2), (6, .iconst 1), (7, .istore_n 3), (8, .iload_n 3), (9, .aload_n 0), (10, .getfield 89), (13, .if_icmp .ge 46), (16, .iload_n 2), (17, .ifCond .eq 42), (20, .aload_n 0), (21, .getfield 13), (24, .aload_n 0), (25, .getfield 40), (28, .iload_n 3), (29, .iconst 1), (30, .isub), (31, .iaload), (32, .iaload), (33, .aload_n 0), (34, .getfield 13), (37, .aload_n 0), (38, .getfield 40), (41, .iload_n 3), (42, .iaload), (43, .iaload), (44, .if_icmp .gt 7), (47, .iconst 1), (48, .goto 4), (51, .iconst 0), (52, .istore_n 2), (53, .iinc 3 1), (56, .goto (-48)), (59, .iload_n 2), (60, .ireturn)]
def za_t95 : List (Nat × Instr) := [(0, .aload_n 0), (1, .getfield 16), (4, .iload_n 1), (5, .iaload), (6, .istore_n 3), (7, .iload_n 2), (8, .tableswitch 116 0 5 #[40, 52, 58, 64, 104, 110]), (48, .iload_n 3), (49, .ldc 31), (51, .if_icmp .ne 7), (54, .iconst 1), (55, .goto 4), (58, .iconst 0), (59, .ireturn), (60, .aload_n 0), (61, .iload_n 3), (62, .invokevirtual 96), (65, .ireturn), (66, .aload_n 0), (67, .iload_n 3), (68, .invokevirtual 99), (71, .ireturn), (72, .aload_n 0), (73, .iload_n 3), (74, .iconst 0), (75, .invokevirtual 92), (78, .iload_n 3), (79, .ldc 31), (81, .if_icmp .eq 29), (84, .aload_n 0), (85, .getfield 7), (88, .iconst 2), (89, .aload_n 0), (90, .getfield 40), (93, .aload_n 0), (94, .getfield 89), (97, .iconst 1), (98, .isub), (99, .iaload), (100, .imul), (101, .iaload), (102, .iload_n 3), (103, .if_icmp .ne 7), (106, .iconst 1), (107, .goto 4), (110, .iconst 0), (111, .ireturn), (112, .aload_n 0), (113, .iload_n 3), (114, .invokevirtual 102), (117, .ireturn), (118, .aload_n 0), (119, .iload_n 3), (120, .invokevirtual 105), (123, .ireturn), (124, .iconst 1), (125, .ireturn)]
def za_t96 : List (Nat × Instr) := [(0, .iload_n 1), (1, .invokestatic 68), (4, .ifCond .eq 13), (7, .iload_n 2), (8, .iconst 0), (9, .bipush 6), (11, .invokestatic 64), (14, .ifCond .ne 5), (17, .iconst (-1)), (18, .ireturn), (19, .aload_n 0), (20, .iload_n 1), (21, .iload_n 2), (22, .invokevirtual 108), (25, .ifCond .eq 7), (28, .iconst 1), (29, .goto 4), (32, .iconst 0), (33, .ireturn)]
def za_t97 : List (Nat × Instr) := [(0, .iload_n 1), (1, .invokestatic 68), (4, .ifCond .ne 5), (7, .iconst (-1)), (8, .ireturn), (9, .aload_n 0), (10, .aload_n 0), (11, .getfield 16), (14, .iload_n 1), (15, .iaload), (16, .iload_n 2), (17, .invokevirtual 92), (20, .aload_n 0), (21, .getfield 89), (24, .ireturn)]
def za_t98 : List (Nat × Instr) := [(0, .aload_n 0), (1, .getfield 46), (4, .astore 4), (6, .iconst 1), (7, .istore 5), (9, .aload 4), (11, .iconst 0), (12, .ldc 31), (14, .iastore), (15, .iconst 0), (16, .istore 6), (18, .iload 6), (20, .iload_n 1), (21, .if_icmp .ge 123), (24, .iload 5), (26, .ifCond .ne 5), (29, .iconst 0), (30, .ireturn), (31, .iinc 5 (-1)), (34, .aload 4), (36, .iload 5), (38, .iaload), (39, .ldc 31), (41, .if_icmp .eq 17), (44, .aload_n 0), (45, .getfield 43), (48, .iload_n 3), (49, .aload 4), (51, .iload 5), (53, .iaload), (54, .iadd), (55, .iload 6), (57, .iastore), (58, .aload_n 0), (59, .getfield 43), (62, .iload_n 3), (63, .iconst 2), (64, .iload 6), (66, .imul), (67, .iadd), (68, .ldc 31), (70, .iastore), (71, .aload_n 0), (72, .getfield 43), (75, .iload_n 3), (76, .iconst 2), (77, .iload 6), (79, .imul), (80, .iadd), (81, .iconst 1), (82, .iadd), (83, .ldc 31), (85, .iastore), (86, .iload_n 2), (87, .iconst 2), (88, .iload 6), (90, .imul), (91, .iconst 1), (92, .iadd), (93, .ishr), (94, .iconst 1), (95, .iand), (96, .iconst 1), (97, .if_icmp .ne 17), (100, .aload 4), (102, .iload 5), (104, .iconst 2), (105, .iload 6), (107, .imul), (108, .iconst 1), (109, .iadd), (110, .iastore), (111, .iinc 5 1), (114, .iload_n 2), (115, .iconst 2), (116, .iload 6), (118, .imul), (119, .ishr), (120, .iconst 1), (121, .iand), (122, .iconst 1), (123, .if_icmp .ne 15), (126, .aload 4), (128, .iload 5), (130, .iconst 2), (131, .iload 6), (133, .imul), (134, .iastore), (135, .iinc 5 1), (138, .iinc 6 1), (141, .goto (-123)), (144, .iload 5), (146, .ifCond .ne 7), (149, .iconst 1), (150, .goto 4), (153, .iconst 0), (154, .ireturn)]
def za_t99 : List (Nat × Instr) := [(0, .iconst 0), (1, .istore 4), (3, .iload 4), (5, .iconst 2), (6, .iload_n 3), (7, .imul), (8, .if_icmp .ge 61), (11, .aload_n 0), (12, .getfield 43), (15, .iload_n 1), (16, .iload 4), (18, .iadd), (19, .iaload), (20, .ldc 31), (22, .if_icmp .eq 7), (25, .iconst 1), (26, .goto 4), (29, .iconst 0), (30, .istore 5), (32, .aload_n 0), (33, .getfield 43), (36, .iload_n 2), (37, .iload 4), (39, .iadd), (40, .iaload), (41, .ldc 31), (43, .if_icmp .eq 7), (46, .iconst 1), (47, .goto 4), (50, .iconst 0), (51, .istore 6), (53, .iload 5), (55, .iload 6), (57, .if_icmp .eq 6), (60, .iload 6), (62, .ireturn), (63, .iinc 4 1), (66, .goto (-63)), (69, .iconst 0), (70, .ireturn)]
def za_t100 : List (Nat × Instr) := [(0, .aload_n 0), (1, .iconst 0), (2, .putfield 112), (5, .iconst 0), (6, .istore_n 2), (7, .iload_n 2), (8, .iconst 1), (9, .iconst 2), (10, .iload_n 1), (11, .imul), (12, .ishl), (13, .if_icmp .ge 140), (16, .aload_n 0), (17, .iload_n 1), (18, .iload_n 2), (19, .bipush 10), (21, .aload_n 0), (22, .getfield 112), (25, .imul), (26, .invokevirtual 115), (29, .ifCond .eq 118), (32, .aload_n 0), (33, .getfield 112), (36, .istore_n 3), (37, .iload_n 3), (38, .ifCond .le 99), (41, .aload_n 0), (42, .bipush 10), (44, .iload_n 3), (45, .imul), (46, .bipush 10), (48, .iload_n 3), (49, .iconst 1), (50, .isub), (51, .imul), (52, .iload_n 1), (53, .invokevirtual 118), (56, .ifCond .eq 81), (59, .iconst 0), (60, .istore 4), (62, .iload 4), (64, .bipush 10), (66, .if_icmp .ge 65), (69, .aload_n 0), (70, .getfield 43), (73, .bipush 10), (75, .iload_n 3), (76, .imul), (77, .iload 4), (79, .iadd), (80, .iaload), (81, .istore 5), (83, .aload_n 0), (84, .getfield 43), (87, .bipush 10), (89, .iload_n 3), (90, .imul), (91, .iload 4), (93, .iadd), (94, .aload_n 0), (95, .getfield 43), (98, .bipush 10), (100, .iload_n 3), (101, .iconst 1), (102, .isub), (103, .imul), (104, .iload 4), (106, .iadd), (107, .iaload), (108, .iastore), (109, .aload_n 0), (110, .getfield 43), (113, .bipush 10), (115, .iload_n 3), (116, .iconst 1), (117, .isub), (118, .imul), (119, .iload 4), (121, .iadd), (122, .iload 5), (124, .iastore), (125, .iinc 4 1), (128, .goto (-66)), (131, .iinc 3 (-1)), (134, .goto (-97)), (137, .aload_n 0), (138, .dup), (139, .getfield 112), (142, .iconst 1), (143, .iadd), (144, .putfield 112), (147, .iinc 2 1), (150, .goto (-143)), (153, .return_)]
def za_t101 : List (Nat × Instr) := [(0, .iload_n 2), (1, .iconst 4), (2, .if_icmp .ne 22), (5, .iload 4), (7, .iload_n 3), (8, .ifCond .ne 7), (11, .iconst 1), (12, .goto 7), (15, .aload_n 0), (16, .getfield 112), (19, .if_icmp .lt 18), (22, .iconst 0), (23, .ireturn), (24, .aload_n 0), (25, .iload_n 2), (26, .iload_n 3), (27, .iload 4), (29, .invokevirtual 121), (32, .ifCond .ne 5), (35, .iconst 0), (36, .ireturn), (37, .aload_n 0), (38, .invokevirtual 124), (41, .istore 5), (43, .iconst 0), (44, .istore 6), (46, .iload 6), (48, .iload_n 3), (49, .if_icmp .ge 31), (52, .aload_n 0), (53, .iload_n 2), (54, .iconst 4), (55, .if_icmp .ne 7), (58, .iconst 0), (59, .goto 10), (62, .aload_n 0), (63, .getfield 49), (66, .iload 6), (68, .iaload), (69, .invokevirtual 85), (72, .istore 7), (74, .iinc 6 1), (77, .goto (-31)), (80, .iconst 0), (81, .istore 6), (83, .iload 6), (85, .iload_n 3), (86, .if_icmp .ge 134), (89, .iload_n 2), (90, .iconst 4), (91, .if_icmp .ne 58), (94, .aload_n 0), (95, .getfield 7), (98, .iconst 2), (99, .iload 6), (101, .imul), (102, .aload_n 0), (103, .getfield 43), (106, .bipush 10), (108, .iload 4), (110, .imul), (111, .iconst 2), (112, .iload 6), (114, .imul), (115, .iadd), (116, .iaload), (117, .iastore), (118, .aload_n 0), (119, .getfield 7), (122, .iconst 2), (123, .iload 6), (125, .imul), (126, .iconst 1), (127, .iadd), (128, .aload_n 0), (129, .getfield 43), (132, .bipush 10), (134, .iload 4), (136, .imul), (137, .iconst 2), (138, .iload 6), (140, .imul), (141, .iadd), (142, .iconst 1), (143, .iadd), (144, .iaload), (145, .iastore), (146, .goto 68), (149, .aload_n 0), (150, .getfield 7), (153, .iconst 2), (154, .iload 6), (156, .imul), (157, .iload 6), (159, .iconst 1), (160, .iadd), (161, .iload_n 3), (162, .if_icmp .ge 10), (165, .iload 6), (167, .iconst 1), (168, .iadd), (169, .goto 14), (172, .iload_n 2), (173, .iconst 3), (174, .if_icmp .ne 7), (177, .iconst 0), (178, .goto 5), (181, .ldc 31), (183, .iastore), (184, .aload_n 0), (185, .getfield 7), (188, .iconst 2), (189, .iload 6), (191, .imul), (192, .iconst 1), (193, .iadd), (194, .iload_n 2), (195, .iconst 2), (196, .if_icmp .ne 15), (199, .iload 6), (201, .ifCond .le 10), (204, .iload 6), (206, .iconst 1), (207, .isub), (208, .goto 5), (211, .ldc 31), (213, .iastore), (214, .iinc 6 1), (217, .goto (-134)), (220, .aload_n 0), (221, .getfield 16), (224, .iload_n 1), (225, .iload_n 3), (226, .ifCond .le 7), (229, .iconst 0), (230, .goto 5), (233, .ldc 31), (235, .iastore), (236, .iconst 1), (237, .ireturn)]
def za_t102 : List (Nat × Instr) := [(0, .iconst 1), (1, .istore 4), (3, .iconst 0), (4, .istore 5), (6, .iload 5), (8, .iload_n 2), (9, .if_icmp .ge 15), (12, .iload 4), (14, .iconst 3), (15, .imul), (16, .istore 4), (18, .iinc 5 1), (21, .goto (-15)), (24, .iload_n 3), (25, .istore 5), (27, .iconst 0), (28, .istore 6), (30, .iload 6), (32, .iload 4), (34, .if_icmp .ge 109), (37, .iload 6), (39, .istore 7), (41, .iconst 0), (42, .istore 8), (44, .iload_n 2), (45, .iconst 1), (46, .isub), (47, .istore 9), (49, .iload 9), (51, .ifCond .lt 63), (54, .aload_n 0), (55, .getfield 49), (58, .iload 9), (60, .iload 7), (62, .iconst 3), (63, .irem), (64, .iastore), (65, .iload 7), (67, .iconst 3), (68, .idiv), (69, .istore 7), (71, .iload 8), (73, .iload 9), (75, .iload_n 2), (76, .iconst 1), (77, .isub), (78, .if_icmp .ge 26), (81, .aload_n 0), (82, .getfield 49), (85, .iload 9), (87, .iaload), (88, .aload_n 0), (89, .getfield 49), (92, .iload 9), (94, .iconst 1), (95, .iadd), (96, .iaload), (97, .if_icmp .le 7), (100, .iconst 1), (101, .goto 4), (104, .iconst 0), (105, .ior), (106, .istore 8), (108, .iinc 9 (-1)), (111, .goto (-62)), (114, .iload_n 1), (115, .iconst 5), (116, .if_icmp .ne 11), (119, .iload 8), (121, .ifCond .eq 6), (124, .goto 13), (127, .iload 5), (129, .ifCond .ne 5), (132, .iconst 1), (133, .ireturn), (134, .iinc 5 (-1)), (137, .iinc 6 1), (140, .goto (-110)), (143, .iconst 0), (144, .ireturn)]
def za_t103 : List (Nat × Instr) := [(0, .aload_n 0), (1, .aload_n 0), (2, .getfield 61), (5, .putfield 128), (8, .iconst 0), (9, .istore_n 1), (10, .iload_n 1), (11, .bipush 48), (13, .if_icmp .ge 21), (16, .aload_n 0), (17, .getfield 52), (20, .iload_n 1), (21, .aload_n 0), (22, .getfield 7), (25, .iload_n 1), (26, .iaload), (27, .iastore), (28, .iinc 1 1), (31, .goto (-21)), (34, .iconst 0), (35, .istore_n 1), (36, .iload_n 1), (37, .bipush 24), (39, .if_icmp .ge 21), (42, .aload_n 0), (43, .getfield 55), (46, .iload_n 1), (47, .aload_n 0), (48, .getfield 13), (51, .iload_n 1), (52, .iaload), (53, .iastore), (54, .iinc 1 1), (57, .goto (-21)), (60, .iconst 0), (61, .istore_n 1), (62, .iload_n 1), (63, .bipush 8), (65, .if_icmp .ge 21), (68, .aload_n 0), (69, .getfield 58), (72, .iload_n 1), (73, .aload_n 0), (74, .getfield 16), (77, .iload_n 1), (78, .iaload), (79, .iastore), (80, .iinc 1 1), (83, .goto (-21)), (86, .return_)]
def za_t104 : List (Nat × Instr) := [(0, .aload_n 0), (1, .aload_n 0), (2, .getfield 128), (5, .putfield 61), (8, .iconst 0), (9, .istore_n 1), (10, .iload_n 1), (11, .bipush 48), (13, .if_icmp .ge 21), (16, .aload_n 0), (17, .getfield 7), (20, .iload_n 1), (21, .aload_n 0), (22, .getfield 52), (25, .iload_n 1), (26, .iaload), (27, .iastore), (28, .iinc 1 1), (31, .goto (-21)), (34, .iconst 0), (35, .istore_n 1), (36, .iload_n 1), (37, .bipush 24), (39, .if_icmp .ge 21), (42, .aload_n 0), (43, .getfield 13), (46, .iload_n 1), (47, .aload_n 0), (48, .getfield 55), (51, .iload_n 1), (52, .iaload), (53, .iastore), (54, .iinc 1 1), (57, .goto (-21)), (60, .iconst 0), (61, .istore_n 1), (62, .iload_n 1), (63, .bipush 8), (65, .if_icmp .ge 21), (68, .aload_n 0), (69, .getfield 16), (72, .iload_n 1), (73, .aload_n 0), (74, .getfield 58), (77, .iload_n 1), (78, .iaload), (79, .iastore), (80, .iinc 1 1), (83, .goto (-21)), (86, .return_)]
def za_t105 : List (Nat × Instr) := [(0, .aload_n 0), (1, .aload_n 0), (2, .getfield 16), (5, .iload_n 3), (6, .iaload), (7, .iload 4), (9, .iconst 4), (10, .if_icmp .ne 7), (13, .iconst 1), (14, .goto 4), (17, .iconst 0), (18, .invokevirtual 92), (21, .aload_n 0), (22, .getfield 89), (25, .iload_n 2), (26, .if_icmp .eq 5), (29, .iconst 0), (30, .ireturn), (31, .iconst 1), (32, .istore 5), (34, .iconst 0), (35, .istore 6), (37, .iload 6), (39, .aload_n 0), (40, .getfield 89), (43, .if_icmp .ge 127), (46, .iload 5), (48, .ifCond .eq 122), (51, .iconst 0), (52, .istore 7), (54, .iconst 0), (55, .istore 8), (57, .iconst 0), (58, .istore 9), (60, .iload 9), (62, .iload_n 2), (63, .if_icmp .ge 87), (66, .iload 7), (68, .aload_n 0), (69, .getfield 13), (72, .aload_n 0), (73, .getfield 40), (76, .iload 9), (78, .iaload), (79, .iaload), (80, .aload_n 0), (81, .getfield 13), (84, .aload_n 0), (85, .getfield 40), (88, .iload 6), (90, .iaload), (91, .iaload), (92, .if_icmp .ne 7), (95, .iconst 1), (96, .goto 4), (99, .iconst 0), (100, .iadd), (101, .istore 7), (103, .iload 8), (105, .iload_n 1), (106, .iconst 4), (107, .if_icmp .ne 7), (110, .iconst 0), (111, .goto 10), (114, .aload_n 0), (115, .getfield 49), (118, .iload 9), (120, .iaload), (121, .aload_n 0), (122, .getfield 13), (125, .aload_n 0), (126, .getfield 40), (129, .iload 6), (131, .iaload), (132, .iaload), (133, .if_icmp .ne 7), (136, .iconst 1), (137, .goto 4), (140, .iconst 0), (141, .iadd), (142, .istore 8), (144, .iinc 9 1), (147, .goto (-87)), (150, .iload 7), (152, .iload 8), (154, .if_icmp .ne 7), (157, .iconst 1), (158, .goto 4), (161, .iconst 0), (162, .istore 5), (164, .iinc 6 1), (167, .goto (-130)), (170, .iload 5), (172, .ireturn)]
def za_t106 : List (Nat × Instr) := [(0, .iload_n 1), (1, .invokestatic 68), (4, .ifCond .eq 40), (7, .iload_n 2), (8, .iconst 1), (9, .iconst 5), (10, .invokestatic 64), (13, .ifCond .eq 31), (16, .iload_n 3), (17, .iconst 0), (18, .iconst 5), (19, .invokestatic 64), (22, .ifCond .eq 22), (25, .iload 4), (27, .invokestatic 68), (30, .ifCond .eq 14), (33, .iload 5), (35, .iconst 0), (36, .bipush 6), (38, .invokestatic 64), (41, .ifCond .ne 5), (44, .iconst (-1)), (45, .ireturn), (46, .aload_n 0), (47, .invokevirtual 131), (50, .aload_n 0), (51, .iconst 0), (52, .putfield 134), (55, .iconst 0), (56, .istore 7), (58, .iload_n 2), (59, .iconst 3), (60, .if_icmp .ne 7), (63, .iconst 1), (64, .goto 4), (67, .iconst 0), (68, .istore 8), (70, .iload 8), (72, .iload_n 3), (73, .if_icmp .gt 134), (76, .iload_n 2), (77, .iconst 4), (78, .if_icmp .ne 14), (81, .iload 8), (83, .ifCond .le 9), (86, .aload_n 0), (87, .iload 8), (89, .invokevirtual 137), (92, .iconst 0), (93, .istore 9), (95, .aload_n 0), (96, .iload_n 1), (97, .iload_n 2), (98, .iload 8), (100, .iload 9), (102, .invokevirtual 141), (105, .ifCond .eq 96), (108, .aload_n 0), (109, .invokevirtual 144), (112, .istore 10), (114, .aload_n 0), (115, .iload 10), (117, .ifCond .eq 8), (120, .iload 10), (122, .goto 42), (125, .aload_n 0), (126, .iload 4), (128, .iload 5), (130, .invokevirtual 108), (133, .ifCond .ne 7), (136, .iconst 4), (137, .goto 27), (140, .iload 6), (142, .ifCond .eq 21), (145, .aload_n 0), (146, .iload_n 2), (147, .iload 8), (149, .iload 4), (151, .iload 5), (153, .invokevirtual 147), (156, .ifCond .ne 7), (159, .iconst 5), (160, .goto 4), (163, .iconst 0), (164, .putfield 134), (167, .aload_n 0), (168, .getfield 134), (171, .ifCond .eq 21), (174, .aload_n 0), (175, .iload_n 1), (176, .iload_n 2), (177, .iload 8), (179, .iload 9), (181, .invokevirtual 141), (184, .istore 11), (186, .bipush (-10)), (188, .iload 7), (190, .isub), (191, .ireturn), (192, .iinc 7 1), (195, .iinc 9 1), (198, .goto (-103)), (201, .iinc 8 1), (204, .goto (-134)), (207, .aload_n 0), (208, .invokevirtual 150), (211, .iload 7), (213, .ireturn)]
def za_t107 : List (Nat × Instr) := [(0, .aload_n 0), (1, .getfield 134), (4, .ireturn)]
def za_t108 : List (Nat × Instr) := [(0, .iload_n 1), (1, .ifCond .ne 10), (4, .aload_n 0), (5, .getfield 61), (8, .goto 16), (11, .iload_n 1), (12, .iconst 1), (13, .if_icmp .ne 10), (16, .aload_n 0), (17, .getfield 76), (20, .goto 4), (23, .iconst (-1)), (24, .ireturn)]
def za_t109 : List (Nat × Instr) := [(18, .iload_n 3), (19, .aload_n 0), (20, .arraylength), (21, .bipush 7), (23, .isub), (24, .if_icmp .gt 569), (27, .aload_n 0), (28, .iload_n 3), (29, .iaload), (30, .bipush 15), (32, .iand), (33, .tableswitch 554 0 14 #[75, 128, 141, 154, 177, 220, 253, 266, 289, 312, 345, 378, 427, 518, 531]), (108, .aload_n 1), (109, .aload_n 0), (110, .iload_n 3), (111, .iconst 1), (112, .iadd), (113, .iaload), (114, .aload_n 0), (115, .iload_n 3), (116, .iconst 2), (117, .iadd), (118, .iaload), (119, .aload_n 0), (120, .iload_n 3), (121, .iconst 3), (122, .iadd), (123, .iaload), (124, .aload_n 0), (125, .iload_n 3), (126, .iconst 4), (127, .iadd), (128, .iaload), (129, .invokevirtual 13), (132, .aload_n 2), (133, .aload_n 0), (134, .iload_n 3), (135, .iconst 1), (136, .iadd), (137, .iaload), (138, .aload_n 0), (139, .iload_n 3), (140, .iconst 2), (141, .iadd), (142, .iaload), (143, .aload_n 0), (144, .iload_n 3), (145, .iconst 3), (146, .iadd), (147, .iaload), (148, .aload_n 0), (149, .iload_n 3), (150, .iconst 4), (151, .iadd), (152, .iaload), (153, .invokevirtual 17), (156, .if_icmp .eq 431), (159, .iconst 0), (160, .ireturn), (161, .aload_n 1), (162, .invokevirtual 18), (165, .aload_n 2), (166, .invokevirtual 22), (169, .if_icmp .eq 418), (172, .iconst 0), (173, .ireturn), (174, .aload_n 1), (175, .invokevirtual 23), (178, .aload_n 2), (179, .invokevirtual 26), (182, .if_icmp .eq 405), (185, .iconst 0), (186, .ireturn), (187, .aload_n 1), (188, .aload_n 0), (189, .iload_n 3), (190, .iconst 1), (191, .iadd), (192, .iaload), (193, .invokevirtual 27), (196, .aload_n 2), (197, .aload_n 0), (198, .iload_n 3), (199, .iconst 1), (200, .iadd), (201, .iaload), (202, .invokevirtual 31), (205, .if_icmp .eq 382), (208, .iconst 0), (209, .ireturn), (210, .aload_n 1), (211, .aload_n 0), (212, .iload_n 3), (213, .iconst 1), (214, .iadd), (215, .iaload), (216, .aload_n 0), (217, .iload_n 3), (218, .iconst 2), (219, .iadd), (220, .iaload), (221, .aload_n 0), (222, .iload_n 3), (223, .iconst 3), (224, .iadd), (225, .iaload), (226, .invokevirtual 32), (229, .aload_n 2), (230, .aload_n 0), (231, .iload_n 3), (232, .iconst 1), (233, .iadd), (234, .iaload), (235, .aload_n 0), (236, .iload_n 3), (237, .iconst 2), (238, .iadd), (239, .iaload), (240, .aload_n 0), (241, .iload_n 3), (242, .iconst 3), (243, .iadd), (244, .iaload), (245, .invokevirtual 36), (248, .if_icmp .eq 339), (251, .iconst 0), (252, .ireturn), (253, .aload_n 1), (254, .aload_n 0), (255, .iload_n 3), (256, .iconst 1), (257, .iadd), (258, .iaload), (259, .aload_n 0), (260, .iload_n 3), (261, .iconst 2), (262, .iadd), (263, .iaload), (264, .invokevirtual 37), (267, .aload_n 2), (268, .aload_n 0), (269, .iload_n 3), (270, .iconst 1), (271, .iadd), (272, .iaload), (273, .aload_n 0), (274, .iload_n 3), (275, .iconst 2), (276, .iadd), (277, .iaload), (278, .invokevirtual 41), (281, .if_icmp .eq 306), (284, .iconst 0), (285, .ireturn), (286, .aload_n 1), (287, .invokevirtual 42), (290, .aload_n 2), (291, .invokevirtual 45), (294, .if_icmp .eq 293), (297, .iconst 0), (298, .ireturn), (299, .aload_n 1), (300, .aload_n 0), (301, .iload_n 3), (302, .iconst 1), (303, .iadd), (304, .iaload), (305, .invokevirtual 46), (308, .aload_n 2), (309, .aload_n 0), (310, .iload_n 3), (311, .iconst 1), (312, .iadd), (313, .iaload), (314, .invokevirtual 49), (317, .if_icmp .eq 270), (320, .iconst 0), (321, .ireturn), (322, .aload_n 1), (323, .aload_n 0), (324, .iload_n 3), (325, .iconst 1), (326, .iadd), (327, .iaload), (328, .invokevirtual 50), (331, .aload_n 2), (332, .aload_n 0), (333, .iload_n 3), (334, .iconst 1), (335, .iadd), (336, .iaload), (337, .invokevirtual 53), (340, .if_icmp .eq 247), (343, .iconst 0), (344, .ireturn), (345, .aload_n 1), (346, .aload_n 0), (347, .iload_n 3), (348, .iconst 1), (349, .iadd), (350, .iaload), (351, .aload_n 0), (352, .iload_n 3), (353, .iconst 2), (354, .iadd), (355, .iaload), (356, .invokevirtual 54), (359, .aload_n 2), (360, .aload_n 0), (361, .iload_n 3), (362, .iconst 1), (363, .iadd), (364, .iaload), (365, .aload_n 0), (366, .iload_n 3), (367, .iconst 2), (368, .iadd), (369, .iaload), (370, .invokevirtual 57), (373, .if_icmp .eq 214), (376, .iconst 0), (377, .ireturn), (378, .aload_n 1), (379, .aload_n 0), (380, .iload_n 3), (381, .iconst 1), (382, .iadd), (383, .iaload), (384, .aload_n 0), (385, .iload_n 3), (386, .iconst 2), (387, .iadd), (388, .iaload), (389, .invokevirtual 58), (392, .aload_n 2), (393, .aload_n 0), (394, .iload_n 3), (395, .iconst 1), (396, .iadd), (397, .iaload), (398, .aload_n 0), (399, .iload_n 3), (400, .iconst 2), (401, .iadd), (402, .iaload), (403, .invokevirtual 61), (406, .if_icmp .eq 181), (409, .iconst 0), (410, .ireturn), (411, .aload_n 1), (412, .aload_n 0), (413, .iload_n 3), (414, .iconst 1), (415, .iadd), (416, .iaload), (417, .aload_n 0), (418, .iload_n 3), (419, .iconst 2), (420, .iadd), (421, .iaload), (422, .ifCond .eq 7), (425, .iconst 1), (426, .goto 4), (429, .iconst 0), (430, .invokevirtual 62), (433, .aload_n 2), (434, .aload_n 0), (435, .iload_n 3), (436, .iconst 1), (437, .iadd), (438, .iaload), (439, .aload_n 0), (440, .iload_n 3), (441, .iconst 2), (442, .iadd), (443, .iaload), (444, .ifCond .eq 7), (447, .iconst 1), (448, .goto 4), (451, .iconst 0), (452, .invokevirtual 66), (455, .if_icmp .eq 132), (458, .iconst 0), (459, .ireturn), (460, .aload_n 1), (461, .aload_n 0), (462, .iload_n 3), (463, .iconst 1), (464, .iadd), (465, .iaload), (466, .aload_n 0), (467, .iload_n 3), (468, .iconst 2), (469, .iadd), (470, .iaload), (471, .aload_n 0), (472, .iload_n 3), (473, .iconst 3), (474, .iadd), (475, .iaload), (476, .aload_n 0), (477, .iload_n 3), (478, .iconst 4), (479, .iadd), (480, .iaload), (481, .aload_n 0), (482, .iload_n 3), (483, .iconst 5), (484, .iadd), (485, .iaload), (486, .aload_n 0), (487, .iload_n 3), (488, .bipush 6), (490, .iadd), (491, .iaload), (492, .ifCond .eq 7), (495, .iconst 1), (496, .goto 4), (499, .iconst 0), (500, .invokevirtual 67), (503, .aload_n 2), (504, .aload_n 0), (505, .iload_n 3), (506, .iconst 1), (507, .iadd), (508, .iaload), (509, .aload_n 0), (510, .iload_n 3), (511, .iconst 2), (512, .iadd), (513, .iaload), (514, .aload_n 0), (515, .iload_n 3), (516, .iconst 3), (517, .iadd), (518, .iaload), (519, .aload_n 0), (520, .iload_n 3), (521, .iconst 4), (522, .iadd), (523, .iaload), (524, .aload_n 0), (525, .iload_n 3), (526, .iconst 5), (527, .iadd), (528, .iaload), (529, .aload_n 0), (530, .iload_n 3), (531, .bipush 6), (533, .iadd), (534, .iaload), (535, .ifCond .eq 7), (538, .iconst 1), (539, .goto 4), (542, .iconst 0), (543, .invokevirtual 71), (546, .if_icmp .eq 41), (549, .iconst 0), (550, .ireturn), (551, .aload_n 1), (552, .invokevirtual 72), (555, .aload_n 2), (556, .invokevirtual 75), (559, .if_icmp .eq 28), (562, .iconst 0), (563, .ireturn), (564, .aload_n 1), (565, .aload_n 0), (566, .iload_n 3), (567, .iconst 1), (568, .iadd), (569, .iaload), (570, .invokevirtual 76), (573, .aload_n 2), (574, .aload_n 0), (575, .iload_n 3), (576, .iconst 1), (577, .iadd), (578, .iaload), (579, .invokevirtual 79), (582, .if_icmp .eq 5), (585, .iconst 0), (586, .ireturn), (587, .iinc 3 7), (590, .goto (-572)), (593, .iconst 1), (594, .ireturn)]
def za_tab (y : Nat) : List (Nat × Instr) := match y with
  | 0 => za_t0
  | 1 => za_t1
  | 2 => za_t2
  | 3 => za_t3
  | 4 => za_t4
  | 5 => za_t5
  | 6 => za_t6
  | 7 => za_t7
  | 8 => za_t8
  | 9 => za_t9
  | 10 => za_t10
  | 11 => za_t11
  | 12 => za_t12
  | 13 => za_t13
  | 14 => za_t14
  | 15 => za_t15
  | 16 => za_t16
  | 17 => za_t17
  | 18 => za_t18
  | 19 => za_t19
  | 20 => za_t20
  | 21 => za_t21
  | 22 => za_t22
  | 23 => za_t23
  | 24 => za_t24
  | 25 => za_t25
  | 26 => za_t26
  | 27 => za_t27
  | 28 => za_t28
  | 29 => za_t29
  | 30 => za_t30
  | 31 => za_t31
  | 32 => za_t32
  | 33 => za_t33
  | 34 => za_t34
  | 35 => za_t35
  | 36 => za_t36
  | 37 => za_t37
  | 38 => za_t38
  | 39 => za_t39
  | 40 => za_t40
  | 41 => za_t41
  | 42 => za_t42
  | 43 => za_t43
  | 44 => za_t44
  | 45 => za_t45
  | 46 => za_t46
  | 47 => za_t47
  | 48 => za_t48
  | 49 => za_t49
  | 50 => za_t50
  | 51 => za_t51
  | 52 => za_t52
  | 53 => za_t53
  | 54 => za_t54
  | 55 => za_t55
  | 56 => za_t56
  | 57 => za_t57
  | 58 => za_t58
  | 59 => za_t59
  | 60 => za_t60
  | 61 => za_t61
  | 62 => za_t62
  | 63 => za_t63
  | 64 => za_t64
  | 65 => za_t65
  | 66 => za_t66
  | 67 => za_t67
  | 68 => za_t68
  | 69 => za_t69
  | 70 => za_t70
  | 71 => za_t71
  | 72 => za_t72
  | 73 => za_t73
  | 74 => za_t74
  | 75 => za_t75
  | 76 => za_t76
  | 77 => za_t77
  | 78 => za_t78
  | 79 => za_t79
  | 80 => za_t80
  | 81 => za_t81
  | 82 => za_t82
  | 83 => za_t83
  | 84 => za_t84
  | 85 => za_t85
  | 86 => za_t86
  | 87 => za_t87
  | 88 => za_t88
  | 89 => za_t89
  | 90 => za_t90
  | 91 => za_t91
  | 92 => za_t92
  | 93 => za_t93
  | 94 => za_t94
  | 95 => za_t95
  | 96 => za_t96
  | 97 => za_t97
  | 98 => za_t98
  | 99 => za_t99
  | 100 => za_t100
  | 101 => za_t101
  | 102 => za_t102
  | 103 => za_t103
  | 104 => za_t104
  | 105 => za_t105
  | 106 => za_t106
  | 107 => za_t107
  | 108 => za_t108
  | 109 => za_t109
  | _ => []
end
section
/-! the evaluator: one instruction, then a run with fuel; 'zT' is: from here the method returns, and Q holds of its answer and the memory then -/
abbrev za_O : Type := (Nat × List Value × List Value × za_M) ⊕ ((Nat × List Value × List Value) ⊕ Int32)
def za_nx (pc : Nat) (ls st : List Value) (M : za_M) : Option za_O := some (.inl (pc, ls, st, M))
def za_jp (c : Jvm.ClassFile.Cond) (x y : Int32) (t f : Nat) : Nat := match c with
  | .eq => if x = y then t else f
  | .ne => if x = y then f else t
  | .lt => if x < y then t else f
  | .ge => if y ≤ x then t else f
  | .gt => if y < x then t else f
  | .le => if x ≤ y then t else f
def za_tg (pc : Nat) (off : Int) : Option Nat := if 0 ≤ (pc : Int) + off then some ((pc : Int) + off).toNat else none
def za_ln (L a : Nat) (z : Bool) : Option Nat := match za_at L a with
  | some (.inr (w, n)) => if w = z then some n else none
  | _ => none
def za_fv (L : Nat) (M : za_M) (h ci k : Nat) : Option Value := match za_at L h with
  | some (.inl (cj, fs)) => if cj = ci then (match fs[k]? with
    | some (some q) => some (.ref q)
    | some none => some (.int (M h k))
    | none => none) else none
  | _ => none
def za_fi (L : Nat) (h ci k : Nat) : Bool := match za_at L h with
  | some (.inl (cj, fs)) => decide (cj = ci) && (match fs[k]? with
    | some none => true
    | _ => false)
  | _ => false
def za_isc (L h ci : Nat) : Bool := match za_at L h with
  | some (.inl (cj, _)) => decide (cj = ci)
  | _ => false
def za_pop : Nat → List Value → List Value → Option (List Value × List Value)
  | 0, st, acc => some (acc, st)
  | n + 1, v :: st, acc => za_pop n st (v :: acc)
  | _ + 1, [], _ => none
def za_rcv (L z : Nat) (as : List Value) : Bool := match as with
  | .ref h :: _ => decide (h < 42) && za_isc L h (za_own z)
  | _ => false
def za_call (L y z : Nat) (v : Bool) (st : List Value) : Option za_O := if za_ht z < za_ht y ∧ za_st z = !v then (match za_pop (za_na z) st [] with
  | some (as, st') => if st'.length ≤ 8 ∧ as.length ≤ za_mx z ∧ (v = true → za_rcv L z as = true) then some (.inr (.inl (z, as, st'))) else none
  | none => none) else none
def za_off (x : Int32) (dflt lo hi : Int) (offs : Array Int) : Option Int := if x.toInt < lo ∨ hi < x.toInt then some dflt else offs[(x.toInt - lo).toNat]?
def za_go (pc : Nat) (off : Option Int) (ls st : List Value) (M : za_M) : Option za_O := match off with
  | some o => (match za_tg pc o with
    | some t => za_nx t ls st M
    | none => none)
  | none => none
def za_cpyok (L a0 a : Nat) (sp dp n : Int32) : Prop := a0 < 42 ∧ a < 42 ∧ ¬ sp < 0 ∧ ¬ dp < 0 ∧ ¬ n < 0 ∧ sp.toNatClampNeg + n.toNatClampNeg ≤ (za_ln L a0 false).getD 0 ∧ dp.toNatClampNeg + n.toNatClampNeg ≤ (za_ln L a false).getD 0 ∧ (za_ln L a0 false).isSome = true ∧ (za_ln L a false).isSome = true
set_option maxHeartbeats 4000000 in
def za_do (L y pc : Nat) (i : Instr) (ls st : List Value) (M : za_M) : Option za_O := match i with
  | .aload k => (match ls[k]? with
    | some (.ref r) => za_nx (pc + 2) ls (.ref r :: st) M
    | _ => none)
  | .aload_n k => (match ls[k.val]? with
    | some (.ref r) => za_nx (pc + 1) ls (.ref r :: st) M
    | _ => none)
  | .iload k => (match ls[k]? with
    | some (.int r) => za_nx (pc + 2) ls (.int r :: st) M
    | _ => none)
  | .iload_n k => (match ls[k.val]? with
    | some (.int r) => za_nx (pc + 1) ls (.int r :: st) M
    | _ => none)
  | .istore k => (match st with
    | .int x :: st => if k < ls.length then za_nx (pc + 2) (ls.set k (.int x)) st M else none
    | _ => none)
  | .istore_n k => (match st with
    | .int x :: st => if k.val < ls.length then za_nx (pc + 1) (ls.set k.val (.int x)) st M else none
    | _ => none)
  | .astore k => (match st with
    | .ref x :: st => if k < ls.length then za_nx (pc + 2) (ls.set k (.ref x)) st M else none
    | _ => none)
  | .iinc k n => (match ls[k]? with
    | some (.int x) => za_nx (pc + 3) (ls.set k (.int (x + Int32.ofInt n))) st M
    | _ => none)
  | .iconst n => za_nx (pc + 1) ls (.int (Int32.ofInt n) :: st) M
  | .bipush n => za_nx (pc + 2) ls (.int (Int8.ofInt n).toInt32 :: st) M
  | .sipush n => za_nx (pc + 3) ls (.int (Int16.ofInt n).toInt32 :: st) M
  | .ldc ix => (match za_look za_cl (za_own y) ix with
    | some v => za_nx (pc + 2) ls (.int v :: st) M
    | none => none)
  | .iadd => (match st with
    | .int b :: .int a :: st => za_nx (pc + 1) ls (.int (a + b) :: st) M
    | _ => none)
  | .isub => (match st with
    | .int b :: .int a :: st => za_nx (pc + 1) ls (.int (a - b) :: st) M
    | _ => none)
  | .imul => (match st with
    | .int b :: .int a :: st => za_nx (pc + 1) ls (.int (a * b) :: st) M
    | _ => none)
  | .iand => (match st with
    | .int b :: .int a :: st => za_nx (pc + 1) ls (.int (a &&& b) :: st) M
    | _ => none)
  | .ior => (match st with
    | .int b :: .int a :: st => za_nx (pc + 1) ls (.int (a ||| b) :: st) M
    | _ => none)
  | .ishl => (match st with
    | .int b :: .int a :: st => za_nx (pc + 1) ls (.int (a <<< (b &&& 31)) :: st) M
    | _ => none)
  | .ishr => (match st with
    | .int b :: .int a :: st => za_nx (pc + 1) ls (.int (a >>> (b &&& 31)) :: st) M
    | _ => none)
  | .idiv => (match st with
    | .int b :: .int a :: st => if ¬ b = 0 then za_nx (pc + 1) ls (.int (a / b) :: st) M else none
    | _ => none)
  | .irem => (match st with
    | .int b :: .int a :: st => if ¬ b = 0 then za_nx (pc + 1) ls (.int (a - a / b * b) :: st) M else none
    | _ => none)
  | .dup => (match st with
    | .int a :: st => za_nx (pc + 1) ls (.int a :: .int a :: st) M
    | .ref a :: st => za_nx (pc + 1) ls (.ref a :: .ref a :: st) M
    | _ => none)
  | .pop => (match st with
    | .int _ :: st => za_nx (pc + 1) ls st M
    | _ => none)
  | .goto off => za_go pc (some off) ls st M
  | .ifCond c off => (match st with
    | .int x :: st => (match za_tg pc off with
      | some t => za_nx (za_jp c x 0 t (pc + 3)) ls st M
      | none => none)
    | _ => none)
  | .if_icmp c off => (match st with
    | .int b :: .int a :: st => (match za_tg pc off with
      | some t => za_nx (za_jp c a b t (pc + 3)) ls st M
      | none => none)
    | _ => none)
  | .tableswitch dflt lo hi offs => (match st with
    | .int x :: st => za_go pc (za_off x dflt lo hi offs) ls st M
    | _ => none)
  | .lookupswitch dflt ps => (match st with
    | .int x :: st => if (ps.toList.zip (ps.toList.drop 1)).all (fun q => decide (q.1.1 < q.2.1)) = true then za_go pc (some (Op.lookupswitch.offset ps.toList dflt x.toInt)) ls st M else none
    | _ => none)
  | .getfield ix => (match st with
    | .ref h :: st => (match za_look za_fl (za_own y) ix with
      | some (ci, k) => if h < 42 then (match za_fv L M h ci k with
        | some v => za_nx (pc + 3) ls (v :: st) M
        | none => none) else none
      | none => none)
    | _ => none)
  | .putfield ix => (match st with
    | .int x :: .ref h :: st => (match za_look za_fl (za_own y) ix with
      | some (ci, k) => if h < 42 ∧ za_fi L h ci k = true then za_nx (pc + 3) ls st (za_up M h k x) else none
      | none => none)
    | _ => none)
  | .getstatic ix => if za_own y = 1 ∧ ix = 35 then za_nx (pc + 3) ls (.ref 101 :: st) M else none
  | .iaload => (match st with
    | .int i :: .ref a :: st => (match za_ln L a false with
      | some n => if ¬ (i < 0 ∨ n ≤ i.toNatClampNeg) then za_nx (pc + 1) ls (.int (M a i.toNatClampNeg) :: st) M else none
      | none => none)
    | _ => none)
  | .baload => (match st with
    | .int i :: .ref a :: st => (match za_ln L a true with
      | some n => if ¬ (i < 0 ∨ n ≤ i.toNatClampNeg) then za_nx (pc + 1) ls (.int (M a i.toNatClampNeg) :: st) M else none
      | none => none)
    | _ => none)
  | .iastore => (match st with
    | .int x :: .int i :: .ref a :: st => (match za_ln L a false with
      | some n => if ¬ (i < 0 ∨ n ≤ i.toNatClampNeg) ∧ a < 42 then za_nx (pc + 1) ls st (za_up M a i.toNatClampNeg x) else none
      | none => none)
    | _ => none)
  | .bastore => (match st with
    | .int x :: .int i :: .ref a :: st => (match za_ln L a true with
      | some n => if ¬ (i < 0 ∨ n ≤ i.toNatClampNeg) ∧ a < 42 ∧ (x = 0 ∨ x = 1) then za_nx (pc + 1) ls st (za_up M a i.toNatClampNeg x) else none
      | none => none)
    | _ => none)
  | .arraylength => (match st with
    | .ref a :: st => (match za_ln L a false with
      | some n => za_nx (pc + 1) ls (.int (Int32.ofNat n) :: st) M
      | none => none)
    | _ => none)
  | .invokevirtual ix => (match za_look za_ml (za_own y) ix with
    | some z => za_call L y z true st
    | none => none)
  | .invokestatic ix => if za_own y = 0 ∧ ix = 37 then (match st with
      | [.int n, .int dp, .ref a, .int sp, .ref a0] => if ¬ sp < 0 ∧ ¬ dp < 0 ∧ ¬ n < 0 ∧ a0 < 42 ∧ a < 42 ∧ 0 < za_ht y then (match za_ln L a0 false, za_ln L a false with
        | some n0, some n1 => if sp.toNatClampNeg + n.toNatClampNeg ≤ n0 ∧ dp.toNatClampNeg + n.toNatClampNeg ≤ n1 then za_nx (pc + 3) ls [] (za_row M a (va_cpy (M a0) (M a) sp.toNatClampNeg dp.toNatClampNeg n.toNatClampNeg)) else none
        | _, _ => none) else none
      | _ => none) else (match za_look za_ml (za_own y) ix with
    | some z => za_call L y z false st
    | none => (match za_look za_nl (za_own y) ix with
      | some z => za_call L y z false st
      | none => none))
  | .ireturn => (match st with
    | [.int x] => if za_rt y = 1 ∨ (za_rt y = 2 ∧ (x = 0 ∨ x = 1)) then some (.inr (.inr x)) else none
    | _ => none)
  | .return_ => (match st with
    | [] => if za_rt y = 0 then some (.inr (.inr 0)) else none
    | _ => none)
  | _ => none
def za_step (L y pc : Nat) (ls st : List Value) (M : za_M) : Option za_O := match za_find (za_tab y) pc with
  | some i => za_do L y pc i ls st M
  | none => none
def za_ent (z : Nat) (as : List Value) : List Value := as ++ List.replicate (za_mx z - as.length) .null
def za_ev (L : Nat) : Nat → Nat → Nat → List Value → List Value → za_M → Option (Int32 × za_M)
  | 0, _, _, _, _, _ => none
  | n + 1, y, pc, ls, st, M => match za_step L y pc ls st M with
    | none => none
    | some (.inl (pc', ls', st', M')) => za_ev L n y pc' ls' st' M'
    | some (.inr (.inl (z, as, st'))) => (match za_ev L n z 0 (za_ent z as) [] M with
      | none => none
      | some (r, M') => za_ev L n y (pc + 3) ls (if za_rt z = 0 then st' else .int r :: st') M')
    | some (.inr (.inr r)) => some (r, M)
def zT (L y pc : Nat) (ls st : List Value) (M : za_M) (Q : Int32 → za_M → Prop) : Prop := ∃ (n : Nat) (r : Int32) (M' : za_M), za_ev L n y pc ls st M = some (r, M') ∧ Q r M'
theorem za_ev_succ (L : Nat) : ∀ (n y pc : Nat) (ls st : List Value) (M : za_M) (q : Int32 × za_M), za_ev L n y pc ls st M = some q → za_ev L (n + 1) y pc ls st M = some q := by
  intro n
  induction n with
  | zero => intro y pc ls st M q h; exact absurd h (by simp [za_ev])
  | succ n ih =>
    intro y pc ls st M q h
    rw [za_ev] at h ⊢
    cases hs : za_step L y pc ls st M with
    | none => rw [hs] at h; exact absurd h (by simp)
    | some o =>
      rw [hs] at h
      rcases o with ⟨pc', ls', st', M'⟩ | ⟨z, as, st'⟩ | r
      · exact ih _ _ _ _ _ _ h
      · dsimp only at h ⊢
        cases hc : za_ev L n z 0 (za_ent z as) [] M with
        | none => rw [hc] at h; exact absurd h (by simp)
        | some p =>
          rw [hc] at h
          rw [ih _ _ _ _ _ _ hc]
          exact ih _ _ _ _ _ _ h
      · exact h
theorem za_ev_le (L : Nat) {n k : Nat} (hk : n ≤ k) {y pc : Nat} {ls st : List Value} {M : za_M} {q : Int32 × za_M} (h : za_ev L n y pc ls st M = some q) : za_ev L k y pc ls st M = some q := by
  induction hk with
  | refl => exact h
  | step _ ih => exact za_ev_succ L _ _ _ _ _ _ _ ih
theorem za_ev_det (L : Nat) {n k : Nat} {y pc : Nat} {ls st : List Value} {M : za_M} {q q' : Int32 × za_M} (h : za_ev L n y pc ls st M = some q) (h' : za_ev L k y pc ls st M = some q') : q = q' := by
  have a := za_ev_le L (Nat.le_max_left n k) h
  have b := za_ev_le L (Nat.le_max_right n k) h'
  exact Option.some.inj (a.symm.trans b)
theorem zT_nx {L y pc : Nat} {ls st : List Value} {M : za_M} {Q : Int32 → za_M → Prop} {pc' : Nat} {ls' st' : List Value} {M' : za_M} (h : za_step L y pc ls st M = some (.inl (pc', ls', st', M'))) : zT L y pc ls st M Q ↔ zT L y pc' ls' st' M' Q := by
  constructor
  · rintro ⟨n, r, N, he, hq⟩
    cases n with
    | zero => exact absurd he (by simp [za_ev])
    | succ n => rw [za_ev, h] at he; exact ⟨n, r, N, he, hq⟩
  · rintro ⟨n, r, N, he, hq⟩
    exact ⟨n + 1, r, N, by rw [za_ev, h]; exact he, hq⟩
theorem zT_rt {L y pc : Nat} {ls st : List Value} {M : za_M} {Q : Int32 → za_M → Prop} {r : Int32} (h : za_step L y pc ls st M = some (.inr (.inr r))) : zT L y pc ls st M Q ↔ Q r M := by
  constructor
  · rintro ⟨n, r', N, he, hq⟩
    cases n with
    | zero => exact absurd he (by simp [za_ev])
    | succ n =>
      rw [za_ev, h] at he
      cases he
      exact hq
  · intro hq
    exact ⟨1, r, M, by rw [za_ev, h], hq⟩
theorem zT_cl {L y pc : Nat} {ls st : List Value} {M : za_M} {Q : Int32 → za_M → Prop} {z : Nat} {as st' : List Value} (h : za_step L y pc ls st M = some (.inr (.inl (z, as, st')))) : zT L y pc ls st M Q ↔ zT L z 0 (za_ent z as) [] M (fun r M1 => zT L y (pc + 3) ls (if za_rt z = 0 then st' else .int r :: st') M1 Q) := by
  constructor
  · rintro ⟨n, r, N, he, hq⟩
    cases n with
    | zero => exact absurd he (by simp [za_ev])
    | succ n =>
      rw [za_ev, h] at he
      dsimp only at he
      cases hc : za_ev L n z 0 (za_ent z as) [] M with
      | none => rw [hc] at he; exact absurd he (by simp)
      | some p =>
        rw [hc] at he
        exact ⟨n, p.1, p.2, hc, n, r, N, he, hq⟩
  · rintro ⟨n, r, N, he, k, r2, N2, he2, hq⟩
    refine ⟨max n k + 1, r2, N2, ?_, hq⟩
    rw [za_ev, h]
    dsimp only
    rw [za_ev_le L (Nat.le_max_left n k) he]
    exact za_ev_le L (Nat.le_max_right n k) he2
theorem zT_no {L y pc : Nat} {ls st : List Value} {M : za_M} {Q : Int32 → za_M → Prop} (h : za_step L y pc ls st M = none) : ¬ zT L y pc ls st M Q := by
  rintro ⟨n, r, N, he, hq⟩
  cases n with
  | zero => exact absurd he (by simp [za_ev])
  | succ n => rw [za_ev, h] at he; exact absurd he (by simp)
theorem zT_mono {L y pc : Nat} {ls st : List Value} {M : za_M} {Q Q' : Int32 → za_M → Prop} (h : zT L y pc ls st M Q) (hq : ∀ r M', Q r M' → Q' r M') : zT L y pc ls st M Q' := by
  obtain ⟨n, r, N, he, hQ⟩ := h
  exact ⟨n, r, N, he, hq r N hQ⟩
/-- a method whose end is known: what is asked of it holds just if it holds of that end -/
theorem zT_eq {L y pc : Nat} {ls st : List Value} {M : za_M} {r0 : Int32} {M0 : za_M} (h : zT L y pc ls st M (fun r M' => r = r0 ∧ M' = M0)) {Q : Int32 → za_M → Prop} : zT L y pc ls st M Q ↔ Q r0 M0 := by
  obtain ⟨n, r, N, he, rfl, rfl⟩ := h
  constructor
  · rintro ⟨k, r', N', he', hq⟩
    cases za_ev_det L he he'
    exact hq
  · intro hq
    exact ⟨n, r, N, he, hq⟩
end
section
/-! the printed data against the class files: decided by program -/
def za_wd (i : Instr) : Nat := match i with
  | .aload _ => 2
  | .iload _ => 2
  | .istore _ => 2
  | .astore _ => 2
  | .iinc _ _ => 3
  | .bipush _ => 2
  | .sipush _ => 3
  | .ldc _ => 2
  | .goto _ => 3
  | .ifCond _ _ => 3
  | .if_icmp _ _ => 3
  | .getfield _ => 3
  | .putfield _ => 3
  | .getstatic _ => 3
  | .invokevirtual _ => 3
  | .invokestatic _ => 3
  | .tableswitch _ _ _ _ => 0
  | .lookupswitch _ _ => 0
  | _ => 1
def za_dk (cc : ByteArray) (q : Nat × Instr) : Bool := match decode cc q.1 with
  | .ok (i, n) => decide (i = q.2) && (decide (n = za_wd i) || decide (za_wd i = 0))
  | .error _ => false
theorem za_dk_ok {cc : ByteArray} {q : Nat × Instr} (h : za_dk cc q = true) : ∃ n, decode cc q.1 = .ok (q.2, n) ∧ (n = za_wd q.2 ∨ za_wd q.2 = 0) := by
  unfold za_dk at h
  split at h
  · rename_i i n hd
    simp only [Bool.and_eq_true, Bool.or_eq_true, decide_eq_true_eq] at h
    obtain ⟨rfl, h2⟩ := h
    exact ⟨n, hd, h2⟩
  · cases h
theorem za_find_in {l : List (Nat × Instr)} {pc : Nat} {i : Instr} (h : za_find l pc = some i) : (pc, i) ∈ l := by
  induction l with
  | nil => cases h
  | cons q l ih =>
    unfold za_find at h
    split at h
    · rename_i e
      cases h
      subst e
      exact List.mem_cons_self
    · exact List.mem_cons_of_mem _ (ih h)
theorem za_look_in {α : Type} {l : List ((Nat × Nat) × α)} {a b : Nat} {v : α} (h : za_look l a b = some v) : ((a, b), v) ∈ l := by
  induction l with
  | nil => cases h
  | cons q l ih =>
    unfold za_look at h
    split at h
    · rename_i e
      split at h
      · rename_i e2
        cases h
        subst e e2
        exact List.mem_cons_self
      · exact List.mem_cons_of_mem _ (ih h)
    · exact List.mem_cons_of_mem _ (ih h)
theorem za_d0 : za_t0.all (za_dk cX0_init) = true := by decide +kernel
theorem za_d1 : za_t1.all (za_dk cX0_drop) = true := by decide +kernel
theorem za_d2 : za_t2.all (za_dk cX0_become) = true := by decide +kernel
theorem za_d3 : za_t3.all (za_dk cX0_nodes) = true := by decide +kernel
theorem za_d4 : za_t4.all (za_dk cX0_isNode) = true := by decide +kernel
theorem za_d5 : za_t5.all (za_dk cX0_isNodeOrNone) = true := by decide +kernel
theorem za_d6 : za_t6.all (za_dk cX0_add) = true := by decide +kernel
theorem za_d7 : za_t7.all (za_dk cX0_key) = true := by decide +kernel
theorem za_d8 : za_t8.all (za_dk cX0_setKey) = true := by decide +kernel
theorem za_d9 : za_t9.all (za_dk cX0_target) = true := by decide +kernel
theorem za_d10 : za_t10.all (za_dk cX0_setTarget) = true := by decide +kernel
theorem za_d11 : za_t11.all (za_dk cX0_variable) = true := by decide +kernel
theorem za_d12 : za_t12.all (za_dk cX0_setVariable) = true := by decide +kernel
theorem za_d13 : za_t13.all (za_dk cX0_reach) = true := by decide +kernel
theorem za_d14 : za_t14.all (za_dk cX0_mark) = true := by decide +kernel
theorem za_d15 : za_t15.all (za_dk cX0_clearMarks) = true := by decide +kernel
theorem za_d16 : za_t16.all (za_dk cX0_hasForm) = true := by decide +kernel
theorem za_d17 : za_t17.all (za_dk cX0_behindLast) = true := by decide +kernel
theorem za_d18 : za_t18.all (za_dk cX0_isList) = true := by decide +kernel
theorem za_d19 : za_t19.all (za_dk cX0_isRing) = true := by decide +kernel
theorem za_d20 : za_t20.all (za_dk cX0_linksBack) = true := by decide +kernel
theorem za_d21 : za_t21.all (za_dk cX0_neverFalls) = true := by decide +kernel
theorem za_d22 : za_t22.all (za_dk cX0_isTree) = true := by decide +kernel
theorem za_d23 : za_t23.all (za_dk cX0_keepsKeys) = true := by decide +kernel
theorem za_d24 : za_t24.all (za_dk cX0_reachedWith) = true := by decide +kernel
theorem za_d25 : za_t25.all (za_dk cX0_nodesWith) = true := by decide +kernel
theorem za_d26 : za_t26.all (za_dk cX1_init) = true := by decide +kernel
theorem za_d27 : za_t27.all (za_dk cX1_isInstruction) = true := by decide +kernel
theorem za_d28 : za_t28.all (za_dk cX1_fits) = true := by decide +kernel
theorem za_d29 : za_t29.all (za_dk cX1_add) = true := by decide +kernel
theorem za_d30 : za_t30.all (za_dk cX1_drop) = true := by decide +kernel
theorem za_d31 : za_t31.all (za_dk cX1_length) = true := by decide +kernel
theorem za_d32 : za_t32.all (za_dk cX1_stepsDone) = true := by decide +kernel
theorem za_d33 : za_t33.all (za_dk cX1_lastStep) = true := by decide +kernel
theorem za_d34 : za_t34.all (za_dk cX1_execute) = true := by decide +kernel
theorem za_d35 : za_t35.all (za_dk cX1_isInside) = true := by decide +kernel
theorem za_d36 : za_t36.all (za_dk cX1_stop) = true := by decide +kernel
theorem za_d37 : za_t37.all (za_dk cX1_outcomeOf) = true := by decide +kernel
theorem za_d38 : za_t38.all (za_dk cX1_step) = true := by decide +kernel
theorem za_d39 : za_t39.all (za_dk cX1_makeNode) = true := by decide +kernel
theorem za_d40 : za_t40.all (za_dk cX1_getLink) = true := by decide +kernel
theorem za_d41 : za_t41.all (za_dk cX1_putLink) = true := by decide +kernel
theorem za_d42 : za_t42.all (za_dk cX1_branchIfLess) = true := by decide +kernel
theorem za_d43 : za_t43.all (za_dk cX1_changeKey) = true := by decide +kernel
theorem za_d44 : za_t44.all (za_dk cX2_init) = true := by decide +kernel
theorem za_d45 : za_t45.all (za_dk cX2_leastSize) = true := by decide +kernel
theorem za_d46 : za_t46.all (za_dk cX2_rows) = true := by decide +kernel
theorem za_d47 : za_t47.all (za_dk cX2_build) = true := by decide +kernel
theorem za_d48 : za_t48.all (za_dk cX2_buildChain) = true := by decide +kernel
theorem za_d49 : za_t49.all (za_dk cX2_linkChain) = true := by decide +kernel
theorem za_d50 : za_t50.all (za_dk cX2_buildTree) = true := by decide +kernel
theorem za_d51 : za_t51.all (za_dk cX2_linksOf) = true := by decide +kernel
theorem za_d52 : za_t52.all (za_dk cX2_leaveWaiting) = true := by decide +kernel
theorem za_d53 : za_t53.all (za_dk cX2_pushWaiting) = true := by decide +kernel
theorem za_d54 : za_t54.all (za_dk cX3_init) = true := by decide +kernel
theorem za_d55 : za_t55.all (za_dk cX3_op) = true := by decide +kernel
theorem za_d56 : za_t56.all (za_dk cX3_clear) = true := by decide +kernel
theorem za_d57 : za_t57.all (za_dk cX3_empty) = true := by decide +kernel
theorem za_d58 : za_t58.all (za_dk cX3_node) = true := by decide +kernel
theorem za_d59 : za_t59.all (za_dk cX3_link) = true := by decide +kernel
theorem za_d60 : za_t60.all (za_dk cX3_hold) = true := by decide +kernel
theorem za_d61 : za_t61.all (za_dk cX3_run) = true := by decide +kernel
theorem za_d62 : za_t62.all (za_dk cX3_told) = true := by decide +kernel
theorem za_d63 : za_t63.all (za_dk cX3_held) = true := by decide +kernel
theorem za_d64 : za_t64.all (za_dk cX3_of) = true := by decide +kernel
theorem za_d65 : za_t65.all (za_dk cX3_form) = true := by decide +kernel
theorem za_d66 : za_t66.all (za_dk cX3_size) = true := by decide +kernel
theorem za_d67 : za_t67.all (za_dk cX3_claim) = true := by decide +kernel
theorem za_d68 : za_t68.all (za_dk cX3_why) = true := by decide +kernel
theorem za_d69 : za_t69.all (za_dk cX3_count) = true := by decide +kernel
theorem za_d70 : za_t70.all (za_dk cX3_tryStart) = true := by decide +kernel
theorem za_d71 : za_t71.all (za_dk cX3_isVariable) = true := by decide +kernel
theorem za_d72 : za_t72.all (za_dk cX3_isLink) = true := by decide +kernel
theorem za_d73 : za_t73.all (za_dk cX3_isForm) = true := by decide +kernel
theorem za_d74 : za_t74.all (za_dk cX3_isStartForm) = true := by decide +kernel
theorem za_d75 : za_t75.all (za_dk cX4_init) = true := by decide +kernel
theorem za_d76 : za_t76.all (za_dk cX4_isIn) = true := by decide +kernel
theorem za_d77 : za_t77.all (za_dk cX4_isNode) = true := by decide +kernel
theorem za_d78 : za_t78.all (za_dk cX4_isVariable) = true := by decide +kernel
theorem za_d79 : za_t79.all (za_dk cX4_isRight) = true := by decide +kernel
theorem za_d80 : za_t80.all (za_dk cX4_op) = true := by decide +kernel
theorem za_d81 : za_t81.all (za_dk cX4_clear) = true := by decide +kernel
theorem za_d82 : za_t82.all (za_dk cX4_empty) = true := by decide +kernel
theorem za_d83 : za_t83.all (za_dk cX4_node) = true := by decide +kernel
theorem za_d84 : za_t84.all (za_dk cX4_link) = true := by decide +kernel
theorem za_d85 : za_t85.all (za_dk cX4_hold) = true := by decide +kernel
theorem za_d86 : za_t86.all (za_dk cX4_run) = true := by decide +kernel
theorem za_d87 : za_t87.all (za_dk cX4_told) = true := by decide +kernel
theorem za_d88 : za_t88.all (za_dk cX4_held) = true := by decide +kernel
theorem za_d89 : za_t89.all (za_dk cX4_of) = true := by decide +kernel
theorem za_d90 : za_t90.all (za_dk cX4_gather) = true := by decide +kernel
theorem za_d91 : za_t91.all (za_dk cX4_ends) = true := by decide +kernel
theorem za_d92 : za_t92.all (za_dk cX4_isDoubly) = true := by decide +kernel
theorem za_d93 : za_t93.all (za_dk cX4_isTree) = true := by decide +kernel
theorem za_d94 : za_t94.all (za_dk cX4_isSorted) = true := by decide +kernel
theorem za_d95 : za_t95.all (za_dk cX4_has) = true := by decide +kernel
theorem za_d96 : za_t96.all (za_dk cX4_form) = true := by decide +kernel
theorem za_d97 : za_t97.all (za_dk cX4_size) = true := by decide +kernel
theorem za_d98 : za_t98.all (za_dk cX4_isTreeOf) = true := by decide +kernel
theorem za_d99 : za_t99.all (za_dk cX4_isAhead) = true := by decide +kernel
theorem za_d100 : za_t100.all (za_dk cX4_makesTrees) = true := by decide +kernel
theorem za_d101 : za_t101.all (za_dk cX4_starts) = true := by decide +kernel
theorem za_d102 : za_t102.all (za_dk cX4_keysOf) = true := by decide +kernel
theorem za_d103 : za_t103.all (za_dk cX4_keeps) = true := by decide +kernel
theorem za_d104 : za_t104.all (za_dk cX4_comesBack) = true := by decide +kernel
theorem za_d105 : za_t105.all (za_dk cX4_areKept) = true := by decide +kernel
theorem za_d106 : za_t106.all (za_dk cX4_claim) = true := by decide +kernel
theorem za_d107 : za_t107.all (za_dk cX4_why) = true := by decide +kernel
theorem za_d108 : za_t108.all (za_dk cX4_count) = true := by decide +kernel
theorem za_d109 : za_t109.all (za_dk cL_law) = true := by decide +kernel
theorem za_dall (y : Nat) : (za_tab y).all (za_dk (za_by y)) = true := by
  match y with
  | 0 => exact za_d0
  | 1 => exact za_d1
  | 2 => exact za_d2
  | 3 => exact za_d3
  | 4 => exact za_d4
  | 5 => exact za_d5
  | 6 => exact za_d6
  | 7 => exact za_d7
  | 8 => exact za_d8
  | 9 => exact za_d9
  | 10 => exact za_d10
  | 11 => exact za_d11
  | 12 => exact za_d12
  | 13 => exact za_d13
  | 14 => exact za_d14
  | 15 => exact za_d15
  | 16 => exact za_d16
  | 17 => exact za_d17
  | 18 => exact za_d18
  | 19 => exact za_d19
  | 20 => exact za_d20
  | 21 => exact za_d21
  | 22 => exact za_d22
  | 23 => exact za_d23
  | 24 => exact za_d24
  | 25 => exact za_d25
  | 26 => exact za_d26
  | 27 => exact za_d27
  | 28 => exact za_d28
  | 29 => exact za_d29
  | 30 => exact za_d30
  | 31 => exact za_d31
  | 32 => exact za_d32
  | 33 => exact za_d33
  | 34 => exact za_d34
  | 35 => exact za_d35
  | 36 => exact za_d36
  | 37 => exact za_d37
  | 38 => exact za_d38
  | 39 => exact za_d39
  | 40 => exact za_d40
  | 41 => exact za_d41
  | 42 => exact za_d42
  | 43 => exact za_d43
  | 44 => exact za_d44
  | 45 => exact za_d45
  | 46 => exact za_d46
  | 47 => exact za_d47
  | 48 => exact za_d48
  | 49 => exact za_d49
  | 50 => exact za_d50
  | 51 => exact za_d51
  | 52 => exact za_d52
  | 53 => exact za_d53
  | 54 => exact za_d54
  | 55 => exact za_d55
  | 56 => exact za_d56
  | 57 => exact za_d57
  | 58 => exact za_d58
  | 59 => exact za_d59
  | 60 => exact za_d60
  | 61 => exact za_d61
  | 62 => exact za_d62
  | 63 => exact za_d63
  | 64 => exact za_d64
  | 65 => exact za_d65
  | 66 => exact za_d66
  | 67 => exact za_d67
  | 68 => exact za_d68
  | 69 => exact za_d69
  | 70 => exact za_d70
  | 71 => exact za_d71
  | 72 => exact za_d72
  | 73 => exact za_d73
  | 74 => exact za_d74
  | 75 => exact za_d75
  | 76 => exact za_d76
  | 77 => exact za_d77
  | 78 => exact za_d78
  | 79 => exact za_d79
  | 80 => exact za_d80
  | 81 => exact za_d81
  | 82 => exact za_d82
  | 83 => exact za_d83
  | 84 => exact za_d84
  | 85 => exact za_d85
  | 86 => exact za_d86
  | 87 => exact za_d87
  | 88 => exact za_d88
  | 89 => exact za_d89
  | 90 => exact za_d90
  | 91 => exact za_d91
  | 92 => exact za_d92
  | 93 => exact za_d93
  | 94 => exact za_d94
  | 95 => exact za_d95
  | 96 => exact za_d96
  | 97 => exact za_d97
  | 98 => exact za_d98
  | 99 => exact za_d99
  | 100 => exact za_d100
  | 101 => exact za_d101
  | 102 => exact za_d102
  | 103 => exact za_d103
  | 104 => exact za_d104
  | 105 => exact za_d105
  | 106 => exact za_d106
  | 107 => exact za_d107
  | 108 => exact za_d108
  | 109 => exact za_d109
  | _ + 110 => rfl
theorem za_dec {y pc : Nat} {i : Instr} (h : za_find (za_tab y) pc = some i) : ∃ n, decode (za_by y) pc = .ok (i, n) ∧ (n = za_wd i ∨ za_wd i = 0) := by
  have hm := za_find_in h
  have hk := List.all_eq_true.mp (za_dall y) (pc, i) hm
  exact za_dk_ok (q := (pc, i)) hk
def za_ret (y : Nat) : Option FieldType := match za_rt y with
  | 0 => none
  | 1 => some .int
  | _ => some .boolean
/-- the good words of the tables -/
def za_tb : List Cond := lw_tbl.filter goodWord
theorem za_mem (i : Nat) {w : Cond} (h : lw_tbl[i]? = some w) (hg : goodWord w = true) : w ∈ za_tb := List.mem_filter.mpr ⟨List.mem_of_getElem? h, hg⟩
def za_ok (z : Nat) : Prop := Cond.code (za_y z) (za_by z) (za_mx z) (za_ret z) ∈ za_tb ∧ plainName (za_y z).cls = true ∧ (za_y z).cls = za_cn (za_own z) ∧ (za_y z).cls ≠ "java/lang/invoke/MethodHandle" ∧ (za_y z).cls ≠ "java/lang/invoke/VarHandle" ∧ (parseMethodDescriptor (za_y z).desc).map (fun d => d.parameters.length) = some (if za_st z = true then za_na z else za_na z - 1) ∧ (0 < za_na z ∨ za_st z = true) ∧ za_mx z ≤ 12 ∧ Cond.initialized (za_y z).cls ∈ za_tb ∧ (za_st z = true → Cond.static (za_y z) ∈ za_tb) ∧ (za_st z = false → Cond.instanceMethod (za_y z) ∈ za_tb ∧ Cond.selects (za_cn (za_own z)) (za_y z) (za_y z) ∈ za_tb)
set_option maxRecDepth 100000 in
theorem za_ok1 : za_ok 1 := ⟨za_mem 85 rfl rfl, by decide +kernel, rfl, by decide +kernel, by decide +kernel, by decide +kernel, by decide, by decide, za_mem 34 rfl rfl, fun h => Bool.noConfusion h, fun _ => ⟨za_mem 83 rfl rfl, za_mem 84 rfl rfl⟩⟩
set_option maxRecDepth 100000 in
theorem za_ok2 : za_ok 2 := ⟨za_mem 393 rfl rfl, by decide +kernel, rfl, by decide +kernel, by decide +kernel, by decide +kernel, by decide, by decide, za_mem 34 rfl rfl, fun h => Bool.noConfusion h, fun _ => ⟨za_mem 391 rfl rfl, za_mem 392 rfl rfl⟩⟩
set_option maxRecDepth 100000 in
theorem za_ok3 : za_ok 3 := ⟨za_mem 420 rfl rfl, by decide +kernel, rfl, by decide +kernel, by decide +kernel, by decide +kernel, by decide, by decide, za_mem 34 rfl rfl, fun h => Bool.noConfusion h, fun _ => ⟨za_mem 418 rfl rfl, za_mem 419 rfl rfl⟩⟩
set_option maxRecDepth 100000 in
theorem za_ok4 : za_ok 4 := ⟨za_mem 186 rfl rfl, by decide +kernel, rfl, by decide +kernel, by decide +kernel, by decide +kernel, by decide, by decide, za_mem 34 rfl rfl, fun h => Bool.noConfusion h, fun _ => ⟨za_mem 184 rfl rfl, za_mem 185 rfl rfl⟩⟩
set_option maxRecDepth 100000 in
theorem za_ok5 : za_ok 5 := ⟨za_mem 191 rfl rfl, by decide +kernel, rfl, by decide +kernel, by decide +kernel, by decide +kernel, by decide, by decide, za_mem 34 rfl rfl, fun h => Bool.noConfusion h, fun _ => ⟨za_mem 189 rfl rfl, za_mem 190 rfl rfl⟩⟩
set_option maxRecDepth 100000 in
theorem za_ok6 : za_ok 6 := ⟨za_mem 178 rfl rfl, by decide +kernel, rfl, by decide +kernel, by decide +kernel, by decide +kernel, by decide, by decide, za_mem 34 rfl rfl, fun h => Bool.noConfusion h, fun _ => ⟨za_mem 176 rfl rfl, za_mem 177 rfl rfl⟩⟩
set_option maxRecDepth 100000 in
theorem za_ok7 : za_ok 7 := ⟨za_mem 253 rfl rfl, by decide +kernel, rfl, by decide +kernel, by decide +kernel, by decide +kernel, by decide, by decide, za_mem 34 rfl rfl, fun h => Bool.noConfusion h, fun _ => ⟨za_mem 251 rfl rfl, za_mem 252 rfl rfl⟩⟩
set_option maxRecDepth 100000 in
theorem za_ok8 : za_ok 8 := ⟨za_mem 260 rfl rfl, by decide +kernel, rfl, by decide +kernel, by decide +kernel, by decide +kernel, by decide, by decide, za_mem 34 rfl rfl, fun h => Bool.noConfusion h, fun _ => ⟨za_mem 258 rfl rfl, za_mem 259 rfl rfl⟩⟩
set_option maxRecDepth 100000 in
theorem za_ok9 : za_ok 9 := ⟨za_mem 242 rfl rfl, by decide +kernel, rfl, by decide +kernel, by decide +kernel, by decide +kernel, by decide, by decide, za_mem 34 rfl rfl, fun h => Bool.noConfusion h, fun _ => ⟨za_mem 240 rfl rfl, za_mem 241 rfl rfl⟩⟩
set_option maxRecDepth 100000 in
theorem za_ok10 : za_ok 10 := ⟨za_mem 196 rfl rfl, by decide +kernel, rfl, by decide +kernel, by decide +kernel, by decide +kernel, by decide, by decide, za_mem 34 rfl rfl, fun h => Bool.noConfusion h, fun _ => ⟨za_mem 194 rfl rfl, za_mem 195 rfl rfl⟩⟩
set_option maxRecDepth 100000 in
theorem za_ok11 : za_ok 11 := ⟨za_mem 235 rfl rfl, by decide +kernel, rfl, by decide +kernel, by decide +kernel, by decide +kernel, by decide, by decide, za_mem 34 rfl rfl, fun h => Bool.noConfusion h, fun _ => ⟨za_mem 233 rfl rfl, za_mem 234 rfl rfl⟩⟩
set_option maxRecDepth 100000 in
theorem za_ok12 : za_ok 12 := ⟨za_mem 206 rfl rfl, by decide +kernel, rfl, by decide +kernel, by decide +kernel, by decide +kernel, by decide, by decide, za_mem 34 rfl rfl, fun h => Bool.noConfusion h, fun _ => ⟨za_mem 204 rfl rfl, za_mem 205 rfl rfl⟩⟩
set_option maxRecDepth 100000 in
theorem za_ok13 : za_ok 13 := ⟨za_mem 301 rfl rfl, by decide +kernel, rfl, by decide +kernel, by decide +kernel, by decide +kernel, by decide, by decide, za_mem 34 rfl rfl, fun h => Bool.noConfusion h, fun _ => ⟨za_mem 299 rfl rfl, za_mem 300 rfl rfl⟩⟩
set_option maxRecDepth 100000 in
theorem za_ok14 : za_ok 14 := ⟨za_mem 310 rfl rfl, by decide +kernel, rfl, by decide +kernel, by decide +kernel, by decide +kernel, by decide, by decide, za_mem 34 rfl rfl, fun h => Bool.noConfusion h, fun _ => ⟨za_mem 309 rfl rfl, za_mem 3 rfl rfl⟩⟩
set_option maxRecDepth 100000 in
theorem za_ok15 : za_ok 15 := ⟨za_mem 305 rfl rfl, by decide +kernel, rfl, by decide +kernel, by decide +kernel, by decide +kernel, by decide, by decide, za_mem 34 rfl rfl, fun h => Bool.noConfusion h, fun _ => ⟨za_mem 304 rfl rfl, za_mem 2 rfl rfl⟩⟩
set_option maxRecDepth 100000 in
theorem za_ok16 : za_ok 16 := ⟨za_mem 297 rfl rfl, by decide +kernel, rfl, by decide +kernel, by decide +kernel, by decide +kernel, by decide, by decide, za_mem 34 rfl rfl, fun h => Bool.noConfusion h, fun _ => ⟨za_mem 295 rfl rfl, za_mem 296 rfl rfl⟩⟩
set_option maxRecDepth 100000 in
theorem za_ok17 : za_ok 17 := ⟨za_mem 319 rfl rfl, by decide +kernel, rfl, by decide +kernel, by decide +kernel, by decide +kernel, by decide, by decide, za_mem 34 rfl rfl, fun h => Bool.noConfusion h, fun _ => ⟨za_mem 318 rfl rfl, za_mem 5 rfl rfl⟩⟩
set_option maxRecDepth 100000 in
theorem za_ok18 : za_ok 18 := ⟨za_mem 315 rfl rfl, by decide +kernel, rfl, by decide +kernel, by decide +kernel, by decide +kernel, by decide, by decide, za_mem 34 rfl rfl, fun h => Bool.noConfusion h, fun _ => ⟨za_mem 314 rfl rfl, za_mem 4 rfl rfl⟩⟩
set_option maxRecDepth 100000 in
theorem za_ok19 : za_ok 19 := ⟨za_mem 327 rfl rfl, by decide +kernel, rfl, by decide +kernel, by decide +kernel, by decide +kernel, by decide, by decide, za_mem 34 rfl rfl, fun h => Bool.noConfusion h, fun _ => ⟨za_mem 326 rfl rfl, za_mem 7 rfl rfl⟩⟩
set_option maxRecDepth 100000 in
theorem za_ok20 : za_ok 20 := ⟨za_mem 323 rfl rfl, by decide +kernel, rfl, by decide +kernel, by decide +kernel, by decide +kernel, by decide, by decide, za_mem 34 rfl rfl, fun h => Bool.noConfusion h, fun _ => ⟨za_mem 322 rfl rfl, za_mem 6 rfl rfl⟩⟩
set_option maxRecDepth 100000 in
theorem za_ok21 : za_ok 21 := ⟨za_mem 335 rfl rfl, by decide +kernel, rfl, by decide +kernel, by decide +kernel, by decide +kernel, by decide, by decide, za_mem 34 rfl rfl, fun h => Bool.noConfusion h, fun _ => ⟨za_mem 334 rfl rfl, za_mem 9 rfl rfl⟩⟩
set_option maxRecDepth 100000 in
theorem za_ok22 : za_ok 22 := ⟨za_mem 331 rfl rfl, by decide +kernel, rfl, by decide +kernel, by decide +kernel, by decide +kernel, by decide, by decide, za_mem 34 rfl rfl, fun h => Bool.noConfusion h, fun _ => ⟨za_mem 330 rfl rfl, za_mem 8 rfl rfl⟩⟩
set_option maxRecDepth 100000 in
theorem za_ok23 : za_ok 23 := ⟨za_mem 400 rfl rfl, by decide +kernel, rfl, by decide +kernel, by decide +kernel, by decide +kernel, by decide, by decide, za_mem 34 rfl rfl, fun h => Bool.noConfusion h, fun _ => ⟨za_mem 398 rfl rfl, za_mem 399 rfl rfl⟩⟩
set_option maxRecDepth 100000 in
theorem za_ok24 : za_ok 24 := ⟨za_mem 404 rfl rfl, by decide +kernel, rfl, by decide +kernel, by decide +kernel, by decide +kernel, by decide, by decide, za_mem 34 rfl rfl, fun h => Bool.noConfusion h, fun _ => ⟨za_mem 403 rfl rfl, za_mem 14 rfl rfl⟩⟩
set_option maxRecDepth 100000 in
theorem za_ok25 : za_ok 25 := ⟨za_mem 408 rfl rfl, by decide +kernel, rfl, by decide +kernel, by decide +kernel, by decide +kernel, by decide, by decide, za_mem 34 rfl rfl, fun h => Bool.noConfusion h, fun _ => ⟨za_mem 407 rfl rfl, za_mem 15 rfl rfl⟩⟩
set_option maxRecDepth 100000 in
theorem za_ok27 : za_ok 27 := ⟨za_mem 142 rfl rfl, by decide +kernel, rfl, by decide +kernel, by decide +kernel, by decide +kernel, by decide, by decide, za_mem 33 rfl rfl, fun _ => za_mem 141 rfl rfl, fun h => Bool.noConfusion h⟩
set_option maxRecDepth 100000 in
theorem za_ok28 : za_ok 28 := ⟨za_mem 147 rfl rfl, by decide +kernel, rfl, by decide +kernel, by decide +kernel, by decide +kernel, by decide, by decide, za_mem 33 rfl rfl, fun _ => za_mem 146 rfl rfl, fun h => Bool.noConfusion h⟩
set_option maxRecDepth 100000 in
theorem za_ok29 : za_ok 29 := ⟨za_mem 157 rfl rfl, by decide +kernel, rfl, by decide +kernel, by decide +kernel, by decide +kernel, by decide, by decide, za_mem 33 rfl rfl, fun h => Bool.noConfusion h, fun _ => ⟨za_mem 155 rfl rfl, za_mem 156 rfl rfl⟩⟩
set_option maxRecDepth 100000 in
theorem za_ok30 : za_ok 30 := ⟨za_mem 165 rfl rfl, by decide +kernel, rfl, by decide +kernel, by decide +kernel, by decide +kernel, by decide, by decide, za_mem 33 rfl rfl, fun h => Bool.noConfusion h, fun _ => ⟨za_mem 163 rfl rfl, za_mem 164 rfl rfl⟩⟩
set_option maxRecDepth 100000 in
theorem za_ok31 : za_ok 31 := ⟨za_mem 424 rfl rfl, by decide +kernel, rfl, by decide +kernel, by decide +kernel, by decide +kernel, by decide, by decide, za_mem 33 rfl rfl, fun h => Bool.noConfusion h, fun _ => ⟨za_mem 422 rfl rfl, za_mem 423 rfl rfl⟩⟩
set_option maxRecDepth 100000 in
theorem za_ok32 : za_ok 32 := ⟨za_mem 271 rfl rfl, by decide +kernel, rfl, by decide +kernel, by decide +kernel, by decide +kernel, by decide, by decide, za_mem 33 rfl rfl, fun h => Bool.noConfusion h, fun _ => ⟨za_mem 269 rfl rfl, za_mem 270 rfl rfl⟩⟩
set_option maxRecDepth 100000 in
theorem za_ok33 : za_ok 33 := ⟨za_mem 275 rfl rfl, by decide +kernel, rfl, by decide +kernel, by decide +kernel, by decide +kernel, by decide, by decide, za_mem 33 rfl rfl, fun h => Bool.noConfusion h, fun _ => ⟨za_mem 273 rfl rfl, za_mem 274 rfl rfl⟩⟩
set_option maxRecDepth 100000 in
theorem za_ok34 : za_ok 34 := ⟨za_mem 215 rfl rfl, by decide +kernel, rfl, by decide +kernel, by decide +kernel, by decide +kernel, by decide, by decide, za_mem 33 rfl rfl, fun h => Bool.noConfusion h, fun _ => ⟨za_mem 213 rfl rfl, za_mem 214 rfl rfl⟩⟩
set_option maxRecDepth 100000 in
theorem za_ok35 : za_ok 35 := ⟨za_mem 219 rfl rfl, by decide +kernel, rfl, by decide +kernel, by decide +kernel, by decide +kernel, by decide, by decide, za_mem 33 rfl rfl, fun h => Bool.noConfusion h, fun _ => ⟨za_mem 218 rfl rfl, za_mem 0 rfl rfl⟩⟩
set_option maxRecDepth 100000 in
theorem za_ok36 : za_ok 36 := ⟨za_mem 226 rfl rfl, by decide +kernel, rfl, by decide +kernel, by decide +kernel, by decide +kernel, by decide, by decide, za_mem 33 rfl rfl, fun _ => za_mem 225 rfl rfl, fun h => Bool.noConfusion h⟩
set_option maxRecDepth 100000 in
theorem za_ok37 : za_ok 37 := ⟨za_mem 263 rfl rfl, by decide +kernel, rfl, by decide +kernel, by decide +kernel, by decide +kernel, by decide, by decide, za_mem 33 rfl rfl, fun _ => za_mem 262 rfl rfl, fun h => Bool.noConfusion h⟩
set_option maxRecDepth 100000 in
theorem za_ok38 : za_ok 38 := ⟨za_mem 223 rfl rfl, by decide +kernel, rfl, by decide +kernel, by decide +kernel, by decide +kernel, by decide, by decide, za_mem 33 rfl rfl, fun h => Bool.noConfusion h, fun _ => ⟨za_mem 222 rfl rfl, za_mem 1 rfl rfl⟩⟩
set_option maxRecDepth 100000 in
theorem za_ok39 : za_ok 39 := ⟨za_mem 229 rfl rfl, by decide +kernel, rfl, by decide +kernel, by decide +kernel, by decide +kernel, by decide, by decide, za_mem 33 rfl rfl, fun _ => za_mem 228 rfl rfl, fun h => Bool.noConfusion h⟩
set_option maxRecDepth 100000 in
theorem za_ok40 : za_ok 40 := ⟨za_mem 238 rfl rfl, by decide +kernel, rfl, by decide +kernel, by decide +kernel, by decide +kernel, by decide, by decide, za_mem 33 rfl rfl, fun _ => za_mem 237 rfl rfl, fun h => Bool.noConfusion h⟩
set_option maxRecDepth 100000 in
theorem za_ok41 : za_ok 41 := ⟨za_mem 245 rfl rfl, by decide +kernel, rfl, by decide +kernel, by decide +kernel, by decide +kernel, by decide, by decide, za_mem 33 rfl rfl, fun _ => za_mem 244 rfl rfl, fun h => Bool.noConfusion h⟩
set_option maxRecDepth 100000 in
theorem za_ok42 : za_ok 42 := ⟨za_mem 249 rfl rfl, by decide +kernel, rfl, by decide +kernel, by decide +kernel, by decide +kernel, by decide, by decide, za_mem 33 rfl rfl, fun _ => za_mem 248 rfl rfl, fun h => Bool.noConfusion h⟩
set_option maxRecDepth 100000 in
theorem za_ok43 : za_ok 43 := ⟨za_mem 256 rfl rfl, by decide +kernel, rfl, by decide +kernel, by decide +kernel, by decide +kernel, by decide, by decide, za_mem 33 rfl rfl, fun _ => za_mem 255 rfl rfl, fun h => Bool.noConfusion h⟩
set_option maxRecDepth 100000 in
theorem za_ok45 : za_ok 45 := ⟨za_mem 351 rfl rfl, by decide +kernel, rfl, by decide +kernel, by decide +kernel, by decide +kernel, by decide, by decide, za_mem 35 rfl rfl, fun _ => za_mem 350 rfl rfl, fun h => Bool.noConfusion h⟩
set_option maxRecDepth 100000 in
theorem za_ok46 : za_ok 46 := ⟨za_mem 354 rfl rfl, by decide +kernel, rfl, by decide +kernel, by decide +kernel, by decide +kernel, by decide, by decide, za_mem 35 rfl rfl, fun _ => za_mem 353 rfl rfl, fun h => Bool.noConfusion h⟩
set_option maxRecDepth 100000 in
theorem za_ok47 : za_ok 47 := ⟨za_mem 358 rfl rfl, by decide +kernel, rfl, by decide +kernel, by decide +kernel, by decide +kernel, by decide, by decide, za_mem 35 rfl rfl, fun h => Bool.noConfusion h, fun _ => ⟨za_mem 356 rfl rfl, za_mem 357 rfl rfl⟩⟩
set_option maxRecDepth 100000 in
theorem za_ok48 : za_ok 48 := ⟨za_mem 379 rfl rfl, by decide +kernel, rfl, by decide +kernel, by decide +kernel, by decide +kernel, by decide, by decide, za_mem 35 rfl rfl, fun _ => za_mem 378 rfl rfl, fun h => Bool.noConfusion h⟩
set_option maxRecDepth 100000 in
theorem za_ok49 : za_ok 49 := ⟨za_mem 383 rfl rfl, by decide +kernel, rfl, by decide +kernel, by decide +kernel, by decide +kernel, by decide, by decide, za_mem 35 rfl rfl, fun _ => za_mem 382 rfl rfl, fun h => Bool.noConfusion h⟩
set_option maxRecDepth 100000 in
theorem za_ok50 : za_ok 50 := ⟨za_mem 363 rfl rfl, by decide +kernel, rfl, by decide +kernel, by decide +kernel, by decide +kernel, by decide, by decide, za_mem 35 rfl rfl, fun h => Bool.noConfusion h, fun _ => ⟨za_mem 362 rfl rfl, za_mem 10 rfl rfl⟩⟩
set_option maxRecDepth 100000 in
theorem za_ok51 : za_ok 51 := ⟨za_mem 368 rfl rfl, by decide +kernel, rfl, by decide +kernel, by decide +kernel, by decide +kernel, by decide, by decide, za_mem 35 rfl rfl, fun _ => za_mem 367 rfl rfl, fun h => Bool.noConfusion h⟩
set_option maxRecDepth 100000 in
theorem za_ok52 : za_ok 52 := ⟨za_mem 372 rfl rfl, by decide +kernel, rfl, by decide +kernel, by decide +kernel, by decide +kernel, by decide, by decide, za_mem 35 rfl rfl, fun h => Bool.noConfusion h, fun _ => ⟨za_mem 371 rfl rfl, za_mem 11 rfl rfl⟩⟩
set_option maxRecDepth 100000 in
theorem za_ok53 : za_ok 53 := ⟨za_mem 376 rfl rfl, by decide +kernel, rfl, by decide +kernel, by decide +kernel, by decide +kernel, by decide, by decide, za_mem 35 rfl rfl, fun h => Bool.noConfusion h, fun _ => ⟨za_mem 375 rfl rfl, za_mem 12 rfl rfl⟩⟩
set_option maxRecDepth 100000 in
theorem za_ok55 : za_ok 55 := ⟨za_mem 139 rfl rfl, by decide +kernel, rfl, by decide +kernel, by decide +kernel, by decide +kernel, by decide, by decide, za_mem 32 rfl rfl, fun h => Bool.noConfusion h, fun _ => ⟨za_mem 137 rfl rfl, za_mem 138 rfl rfl⟩⟩
set_option maxRecDepth 100000 in
theorem za_ok56 : za_ok 56 := ⟨za_mem 161 rfl rfl, by decide +kernel, rfl, by decide +kernel, by decide +kernel, by decide +kernel, by decide, by decide, za_mem 32 rfl rfl, fun h => Bool.noConfusion h, fun _ => ⟨za_mem 159 rfl rfl, za_mem 160 rfl rfl⟩⟩
set_option maxRecDepth 100000 in
theorem za_ok57 : za_ok 57 := ⟨za_mem 169 rfl rfl, by decide +kernel, rfl, by decide +kernel, by decide +kernel, by decide +kernel, by decide, by decide, za_mem 32 rfl rfl, fun h => Bool.noConfusion h, fun _ => ⟨za_mem 167 rfl rfl, za_mem 168 rfl rfl⟩⟩
set_option maxRecDepth 100000 in
theorem za_ok58 : za_ok 58 := ⟨za_mem 174 rfl rfl, by decide +kernel, rfl, by decide +kernel, by decide +kernel, by decide +kernel, by decide, by decide, za_mem 32 rfl rfl, fun h => Bool.noConfusion h, fun _ => ⟨za_mem 172 rfl rfl, za_mem 173 rfl rfl⟩⟩
set_option maxRecDepth 100000 in
theorem za_ok59 : za_ok 59 := ⟨za_mem 182 rfl rfl, by decide +kernel, rfl, by decide +kernel, by decide +kernel, by decide +kernel, by decide, by decide, za_mem 32 rfl rfl, fun h => Bool.noConfusion h, fun _ => ⟨za_mem 180 rfl rfl, za_mem 181 rfl rfl⟩⟩
set_option maxRecDepth 100000 in
theorem za_ok60 : za_ok 60 := ⟨za_mem 201 rfl rfl, by decide +kernel, rfl, by decide +kernel, by decide +kernel, by decide +kernel, by decide, by decide, za_mem 32 rfl rfl, fun h => Bool.noConfusion h, fun _ => ⟨za_mem 199 rfl rfl, za_mem 200 rfl rfl⟩⟩
set_option maxRecDepth 100000 in
theorem za_ok61 : za_ok 61 := ⟨za_mem 211 rfl rfl, by decide +kernel, rfl, by decide +kernel, by decide +kernel, by decide +kernel, by decide, by decide, za_mem 32 rfl rfl, fun h => Bool.noConfusion h, fun _ => ⟨za_mem 209 rfl rfl, za_mem 210 rfl rfl⟩⟩
set_option maxRecDepth 100000 in
theorem za_ok62 : za_ok 62 := ⟨za_mem 267 rfl rfl, by decide +kernel, rfl, by decide +kernel, by decide +kernel, by decide +kernel, by decide, by decide, za_mem 32 rfl rfl, fun h => Bool.noConfusion h, fun _ => ⟨za_mem 265 rfl rfl, za_mem 266 rfl rfl⟩⟩
set_option maxRecDepth 100000 in
theorem za_ok63 : za_ok 63 := ⟨za_mem 279 rfl rfl, by decide +kernel, rfl, by decide +kernel, by decide +kernel, by decide +kernel, by decide, by decide, za_mem 32 rfl rfl, fun h => Bool.noConfusion h, fun _ => ⟨za_mem 277 rfl rfl, za_mem 278 rfl rfl⟩⟩
set_option maxRecDepth 100000 in
theorem za_ok64 : za_ok 64 := ⟨za_mem 284 rfl rfl, by decide +kernel, rfl, by decide +kernel, by decide +kernel, by decide +kernel, by decide, by decide, za_mem 32 rfl rfl, fun h => Bool.noConfusion h, fun _ => ⟨za_mem 282 rfl rfl, za_mem 283 rfl rfl⟩⟩
set_option maxRecDepth 100000 in
theorem za_ok65 : za_ok 65 := ⟨za_mem 290 rfl rfl, by decide +kernel, rfl, by decide +kernel, by decide +kernel, by decide +kernel, by decide, by decide, za_mem 32 rfl rfl, fun h => Bool.noConfusion h, fun _ => ⟨za_mem 288 rfl rfl, za_mem 289 rfl rfl⟩⟩
set_option maxRecDepth 100000 in
theorem za_ok66 : za_ok 66 := ⟨za_mem 340 rfl rfl, by decide +kernel, rfl, by decide +kernel, by decide +kernel, by decide +kernel, by decide, by decide, za_mem 32 rfl rfl, fun h => Bool.noConfusion h, fun _ => ⟨za_mem 338 rfl rfl, za_mem 339 rfl rfl⟩⟩
set_option maxRecDepth 100000 in
theorem za_ok67 : za_ok 67 := ⟨za_mem 345 rfl rfl, by decide +kernel, rfl, by decide +kernel, by decide +kernel, by decide +kernel, by decide, by decide, za_mem 32 rfl rfl, fun h => Bool.noConfusion h, fun _ => ⟨za_mem 343 rfl rfl, za_mem 344 rfl rfl⟩⟩
set_option maxRecDepth 100000 in
theorem za_ok68 : za_ok 68 := ⟨za_mem 412 rfl rfl, by decide +kernel, rfl, by decide +kernel, by decide +kernel, by decide +kernel, by decide, by decide, za_mem 32 rfl rfl, fun h => Bool.noConfusion h, fun _ => ⟨za_mem 410 rfl rfl, za_mem 411 rfl rfl⟩⟩
set_option maxRecDepth 100000 in
theorem za_ok69 : za_ok 69 := ⟨za_mem 416 rfl rfl, by decide +kernel, rfl, by decide +kernel, by decide +kernel, by decide +kernel, by decide, by decide, za_mem 32 rfl rfl, fun h => Bool.noConfusion h, fun _ => ⟨za_mem 414 rfl rfl, za_mem 415 rfl rfl⟩⟩
set_option maxRecDepth 100000 in
theorem za_ok70 : za_ok 70 := ⟨za_mem 389 rfl rfl, by decide +kernel, rfl, by decide +kernel, by decide +kernel, by decide +kernel, by decide, by decide, za_mem 32 rfl rfl, fun h => Bool.noConfusion h, fun _ => ⟨za_mem 388 rfl rfl, za_mem 13 rfl rfl⟩⟩
set_option maxRecDepth 100000 in
theorem za_ok71 : za_ok 71 := ⟨za_mem 150 rfl rfl, by decide +kernel, rfl, by decide +kernel, by decide +kernel, by decide +kernel, by decide, by decide, za_mem 32 rfl rfl, fun _ => za_mem 149 rfl rfl, fun h => Bool.noConfusion h⟩
set_option maxRecDepth 100000 in
theorem za_ok72 : za_ok 72 := ⟨za_mem 153 rfl rfl, by decide +kernel, rfl, by decide +kernel, by decide +kernel, by decide +kernel, by decide, by decide, za_mem 32 rfl rfl, fun _ => za_mem 152 rfl rfl, fun h => Bool.noConfusion h⟩
set_option maxRecDepth 100000 in
theorem za_ok73 : za_ok 73 := ⟨za_mem 293 rfl rfl, by decide +kernel, rfl, by decide +kernel, by decide +kernel, by decide +kernel, by decide, by decide, za_mem 32 rfl rfl, fun _ => za_mem 292 rfl rfl, fun h => Bool.noConfusion h⟩
set_option maxRecDepth 100000 in
theorem za_ok74 : za_ok 74 := ⟨za_mem 348 rfl rfl, by decide +kernel, rfl, by decide +kernel, by decide +kernel, by decide +kernel, by decide, by decide, za_mem 32 rfl rfl, fun _ => za_mem 347 rfl rfl, fun h => Bool.noConfusion h⟩
set_option maxRecDepth 100000 in
theorem za_ok76 : za_ok 76 := ⟨za_mem 514 rfl rfl, by decide +kernel, rfl, by decide +kernel, by decide +kernel, by decide +kernel, by decide, by decide, za_mem 36 rfl rfl, fun _ => za_mem 513 rfl rfl, fun h => Bool.noConfusion h⟩
set_option maxRecDepth 100000 in
theorem za_ok77 : za_ok 77 := ⟨za_mem 534 rfl rfl, by decide +kernel, rfl, by decide +kernel, by decide +kernel, by decide +kernel, by decide, by decide, za_mem 36 rfl rfl, fun h => Bool.noConfusion h, fun _ => ⟨za_mem 533 rfl rfl, za_mem 16 rfl rfl⟩⟩
set_option maxRecDepth 100000 in
theorem za_ok78 : za_ok 78 := ⟨za_mem 511 rfl rfl, by decide +kernel, rfl, by decide +kernel, by decide +kernel, by decide +kernel, by decide, by decide, za_mem 36 rfl rfl, fun _ => za_mem 510 rfl rfl, fun h => Bool.noConfusion h⟩
set_option maxRecDepth 100000 in
theorem za_ok79 : za_ok 79 := ⟨za_mem 508 rfl rfl, by decide +kernel, rfl, by decide +kernel, by decide +kernel, by decide +kernel, by decide, by decide, za_mem 36 rfl rfl, fun _ => za_mem 507 rfl rfl, fun h => Bool.noConfusion h⟩
set_option maxRecDepth 100000 in
theorem za_ok80 : za_ok 80 := ⟨za_mem 505 rfl rfl, by decide +kernel, rfl, by decide +kernel, by decide +kernel, by decide +kernel, by decide, by decide, za_mem 36 rfl rfl, fun h => Bool.noConfusion h, fun _ => ⟨za_mem 503 rfl rfl, za_mem 504 rfl rfl⟩⟩
set_option maxRecDepth 100000 in
theorem za_ok81 : za_ok 81 := ⟨za_mem 518 rfl rfl, by decide +kernel, rfl, by decide +kernel, by decide +kernel, by decide +kernel, by decide, by decide, za_mem 36 rfl rfl, fun h => Bool.noConfusion h, fun _ => ⟨za_mem 516 rfl rfl, za_mem 517 rfl rfl⟩⟩
set_option maxRecDepth 100000 in
theorem za_ok82 : za_ok 82 := ⟨za_mem 522 rfl rfl, by decide +kernel, rfl, by decide +kernel, by decide +kernel, by decide +kernel, by decide, by decide, za_mem 36 rfl rfl, fun h => Bool.noConfusion h, fun _ => ⟨za_mem 520 rfl rfl, za_mem 521 rfl rfl⟩⟩
set_option maxRecDepth 100000 in
theorem za_ok83 : za_ok 83 := ⟨za_mem 526 rfl rfl, by decide +kernel, rfl, by decide +kernel, by decide +kernel, by decide +kernel, by decide, by decide, za_mem 36 rfl rfl, fun h => Bool.noConfusion h, fun _ => ⟨za_mem 524 rfl rfl, za_mem 525 rfl rfl⟩⟩
set_option maxRecDepth 100000 in
theorem za_ok84 : za_ok 84 := ⟨za_mem 530 rfl rfl, by decide +kernel, rfl, by decide +kernel, by decide +kernel, by decide +kernel, by decide, by decide, za_mem 36 rfl rfl, fun h => Bool.noConfusion h, fun _ => ⟨za_mem 528 rfl rfl, za_mem 529 rfl rfl⟩⟩
set_option maxRecDepth 100000 in
theorem za_ok85 : za_ok 85 := ⟨za_mem 538 rfl rfl, by decide +kernel, rfl, by decide +kernel, by decide +kernel, by decide +kernel, by decide, by decide, za_mem 36 rfl rfl, fun h => Bool.noConfusion h, fun _ => ⟨za_mem 536 rfl rfl, za_mem 537 rfl rfl⟩⟩
set_option maxRecDepth 100000 in
theorem za_ok86 : za_ok 86 := ⟨za_mem 542 rfl rfl, by decide +kernel, rfl, by decide +kernel, by decide +kernel, by decide +kernel, by decide, by decide, za_mem 36 rfl rfl, fun h => Bool.noConfusion h, fun _ => ⟨za_mem 540 rfl rfl, za_mem 541 rfl rfl⟩⟩
set_option maxRecDepth 100000 in
theorem za_ok87 : za_ok 87 := ⟨za_mem 547 rfl rfl, by decide +kernel, rfl, by decide +kernel, by decide +kernel, by decide +kernel, by decide, by decide, za_mem 36 rfl rfl, fun h => Bool.noConfusion h, fun _ => ⟨za_mem 545 rfl rfl, za_mem 546 rfl rfl⟩⟩
set_option maxRecDepth 100000 in
theorem za_ok88 : za_ok 88 := ⟨za_mem 551 rfl rfl, by decide +kernel, rfl, by decide +kernel, by decide +kernel, by decide +kernel, by decide, by decide, za_mem 36 rfl rfl, fun h => Bool.noConfusion h, fun _ => ⟨za_mem 549 rfl rfl, za_mem 550 rfl rfl⟩⟩
set_option maxRecDepth 100000 in
theorem za_ok89 : za_ok 89 := ⟨za_mem 555 rfl rfl, by decide +kernel, rfl, by decide +kernel, by decide +kernel, by decide +kernel, by decide, by decide, za_mem 36 rfl rfl, fun h => Bool.noConfusion h, fun _ => ⟨za_mem 553 rfl rfl, za_mem 554 rfl rfl⟩⟩
set_option maxRecDepth 100000 in
theorem za_ok90 : za_ok 90 := ⟨za_mem 571 rfl rfl, by decide +kernel, rfl, by decide +kernel, by decide +kernel, by decide +kernel, by decide, by decide, za_mem 36 rfl rfl, fun h => Bool.noConfusion h, fun _ => ⟨za_mem 570 rfl rfl, za_mem 19 rfl rfl⟩⟩
set_option maxRecDepth 100000 in
theorem za_ok91 : za_ok 91 := ⟨za_mem 567 rfl rfl, by decide +kernel, rfl, by decide +kernel, by decide +kernel, by decide +kernel, by decide, by decide, za_mem 36 rfl rfl, fun h => Bool.noConfusion h, fun _ => ⟨za_mem 566 rfl rfl, za_mem 18 rfl rfl⟩⟩
set_option maxRecDepth 100000 in
theorem za_ok92 : za_ok 92 := ⟨za_mem 575 rfl rfl, by decide +kernel, rfl, by decide +kernel, by decide +kernel, by decide +kernel, by decide, by decide, za_mem 36 rfl rfl, fun h => Bool.noConfusion h, fun _ => ⟨za_mem 574 rfl rfl, za_mem 20 rfl rfl⟩⟩
set_option maxRecDepth 100000 in
theorem za_ok93 : za_ok 93 := ⟨za_mem 579 rfl rfl, by decide +kernel, rfl, by decide +kernel, by decide +kernel, by decide +kernel, by decide, by decide, za_mem 36 rfl rfl, fun h => Bool.noConfusion h, fun _ => ⟨za_mem 578 rfl rfl, za_mem 21 rfl rfl⟩⟩
set_option maxRecDepth 100000 in
theorem za_ok94 : za_ok 94 := ⟨za_mem 583 rfl rfl, by decide +kernel, rfl, by decide +kernel, by decide +kernel, by decide +kernel, by decide, by decide, za_mem 36 rfl rfl, fun h => Bool.noConfusion h, fun _ => ⟨za_mem 582 rfl rfl, za_mem 22 rfl rfl⟩⟩
set_option maxRecDepth 100000 in
theorem za_ok95 : za_ok 95 := ⟨za_mem 563 rfl rfl, by decide +kernel, rfl, by decide +kernel, by decide +kernel, by decide +kernel, by decide, by decide, za_mem 36 rfl rfl, fun h => Bool.noConfusion h, fun _ => ⟨za_mem 562 rfl rfl, za_mem 17 rfl rfl⟩⟩
set_option maxRecDepth 100000 in
theorem za_ok96 : za_ok 96 := ⟨za_mem 559 rfl rfl, by decide +kernel, rfl, by decide +kernel, by decide +kernel, by decide +kernel, by decide, by decide, za_mem 36 rfl rfl, fun h => Bool.noConfusion h, fun _ => ⟨za_mem 557 rfl rfl, za_mem 558 rfl rfl⟩⟩
set_option maxRecDepth 100000 in
theorem za_ok97 : za_ok 97 := ⟨za_mem 587 rfl rfl, by decide +kernel, rfl, by decide +kernel, by decide +kernel, by decide +kernel, by decide, by decide, za_mem 36 rfl rfl, fun h => Bool.noConfusion h, fun _ => ⟨za_mem 585 rfl rfl, za_mem 586 rfl rfl⟩⟩
set_option maxRecDepth 100000 in
theorem za_ok98 : za_ok 98 := ⟨za_mem 603 rfl rfl, by decide +kernel, rfl, by decide +kernel, by decide +kernel, by decide +kernel, by decide, by decide, za_mem 36 rfl rfl, fun h => Bool.noConfusion h, fun _ => ⟨za_mem 602 rfl rfl, za_mem 25 rfl rfl⟩⟩
set_option maxRecDepth 100000 in
theorem za_ok99 : za_ok 99 := ⟨za_mem 607 rfl rfl, by decide +kernel, rfl, by decide +kernel, by decide +kernel, by decide +kernel, by decide, by decide, za_mem 36 rfl rfl, fun h => Bool.noConfusion h, fun _ => ⟨za_mem 606 rfl rfl, za_mem 26 rfl rfl⟩⟩
set_option maxRecDepth 100000 in
theorem za_ok100 : za_ok 100 := ⟨za_mem 599 rfl rfl, by decide +kernel, rfl, by decide +kernel, by decide +kernel, by decide +kernel, by decide, by decide, za_mem 36 rfl rfl, fun h => Bool.noConfusion h, fun _ => ⟨za_mem 598 rfl rfl, za_mem 24 rfl rfl⟩⟩
set_option maxRecDepth 100000 in
theorem za_ok101 : za_ok 101 := ⟨za_mem 611 rfl rfl, by decide +kernel, rfl, by decide +kernel, by decide +kernel, by decide +kernel, by decide, by decide, za_mem 36 rfl rfl, fun h => Bool.noConfusion h, fun _ => ⟨za_mem 610 rfl rfl, za_mem 27 rfl rfl⟩⟩
set_option maxRecDepth 100000 in
theorem za_ok102 : za_ok 102 := ⟨za_mem 615 rfl rfl, by decide +kernel, rfl, by decide +kernel, by decide +kernel, by decide +kernel, by decide, by decide, za_mem 36 rfl rfl, fun h => Bool.noConfusion h, fun _ => ⟨za_mem 614 rfl rfl, za_mem 28 rfl rfl⟩⟩
set_option maxRecDepth 100000 in
theorem za_ok103 : za_ok 103 := ⟨za_mem 595 rfl rfl, by decide +kernel, rfl, by decide +kernel, by decide +kernel, by decide +kernel, by decide, by decide, za_mem 36 rfl rfl, fun h => Bool.noConfusion h, fun _ => ⟨za_mem 594 rfl rfl, za_mem 23 rfl rfl⟩⟩
set_option maxRecDepth 100000 in
theorem za_ok104 : za_ok 104 := ⟨za_mem 625 rfl rfl, by decide +kernel, rfl, by decide +kernel, by decide +kernel, by decide +kernel, by decide, by decide, za_mem 36 rfl rfl, fun h => Bool.noConfusion h, fun _ => ⟨za_mem 624 rfl rfl, za_mem 30 rfl rfl⟩⟩
set_option maxRecDepth 100000 in
theorem za_ok105 : za_ok 105 := ⟨za_mem 621 rfl rfl, by decide +kernel, rfl, by decide +kernel, by decide +kernel, by decide +kernel, by decide, by decide, za_mem 36 rfl rfl, fun h => Bool.noConfusion h, fun _ => ⟨za_mem 620 rfl rfl, za_mem 29 rfl rfl⟩⟩
set_option maxRecDepth 100000 in
theorem za_ok106 : za_ok 106 := ⟨za_mem 591 rfl rfl, by decide +kernel, rfl, by decide +kernel, by decide +kernel, by decide +kernel, by decide, by decide, za_mem 36 rfl rfl, fun h => Bool.noConfusion h, fun _ => ⟨za_mem 589 rfl rfl, za_mem 590 rfl rfl⟩⟩
set_option maxRecDepth 100000 in
theorem za_ok107 : za_ok 107 := ⟨za_mem 629 rfl rfl, by decide +kernel, rfl, by decide +kernel, by decide +kernel, by decide +kernel, by decide, by decide, za_mem 36 rfl rfl, fun h => Bool.noConfusion h, fun _ => ⟨za_mem 627 rfl rfl, za_mem 628 rfl rfl⟩⟩
set_option maxRecDepth 100000 in
theorem za_ok108 : za_ok 108 := ⟨za_mem 633 rfl rfl, by decide +kernel, rfl, by decide +kernel, by decide +kernel, by decide +kernel, by decide, by decide, za_mem 36 rfl rfl, fun h => Bool.noConfusion h, fun _ => ⟨za_mem 631 rfl rfl, za_mem 632 rfl rfl⟩⟩
def za_callable : List Nat := [1, 2, 3, 4, 5, 6, 7, 8, 9, 10, 11, 12, 13, 14, 15, 16, 17, 18, 19, 20, 21, 22, 23, 24, 25, 27, 28, 29, 30, 31, 32, 33, 34, 35, 36, 37, 38, 39, 40, 41, 42, 43, 45, 46, 47, 48, 49, 50, 51, 52, 53, 55, 56, 57, 58, 59, 60, 61, 62, 63, 64, 65, 66, 67, 68, 69, 70, 71, 72, 73, 74, 76, 77, 78, 79, 80, 81, 82, 83, 84, 85, 86, 87, 88, 89, 90, 91, 92, 93, 94, 95, 96, 97, 98, 99, 100, 101, 102, 103, 104, 105, 106, 107, 108]
theorem za_ok_all : ∀ z ∈ za_callable, za_ok z := List.forall_mem_cons.mpr ⟨za_ok1, List.forall_mem_cons.mpr ⟨za_ok2, List.forall_mem_cons.mpr ⟨za_ok3, List.forall_mem_cons.mpr ⟨za_ok4, List.forall_mem_cons.mpr ⟨za_ok5, List.forall_mem_cons.mpr ⟨za_ok6, List.forall_mem_cons.mpr ⟨za_ok7, List.forall_mem_cons.mpr ⟨za_ok8, List.forall_mem_cons.mpr ⟨za_ok9, List.forall_mem_cons.mpr ⟨za_ok10, List.forall_mem_cons.mpr ⟨za_ok11, List.forall_mem_cons.mpr ⟨za_ok12, List.forall_mem_cons.mpr ⟨za_ok13, List.forall_mem_cons.mpr ⟨za_ok14, List.forall_mem_cons.mpr ⟨za_ok15, List.forall_mem_cons.mpr ⟨za_ok16, List.forall_mem_cons.mpr ⟨za_ok17, List.forall_mem_cons.mpr ⟨za_ok18, List.forall_mem_cons.mpr ⟨za_ok19, List.forall_mem_cons.mpr ⟨za_ok20, List.forall_mem_cons.mpr ⟨za_ok21, List.forall_mem_cons.mpr ⟨za_ok22, List.forall_mem_cons.mpr ⟨za_ok23, List.forall_mem_cons.mpr ⟨za_ok24, List.forall_mem_cons.mpr ⟨za_ok25, List.forall_mem_cons.mpr ⟨za_ok27, List.forall_mem_cons.mpr ⟨za_ok28, List.forall_mem_cons.mpr ⟨za_ok29, List.forall_mem_cons.mpr ⟨za_ok30, List.forall_mem_cons.mpr ⟨za_ok31, List.forall_mem_cons.mpr ⟨za_ok32, List.forall_mem_cons.mpr ⟨za_ok33, List.forall_mem_cons.mpr ⟨za_ok34, List.forall_mem_cons.mpr ⟨za_ok35, List.forall_mem_cons.mpr ⟨za_ok36, List.forall_mem_cons.mpr ⟨za_ok37, List.forall_mem_cons.mpr ⟨za_ok38, List.forall_mem_cons.mpr ⟨za_ok39, List.forall_mem_cons.mpr ⟨za_ok40, List.forall_mem_cons.mpr ⟨za_ok41, List.forall_mem_cons.mpr ⟨za_ok42, List.forall_mem_cons.mpr ⟨za_ok43, List.forall_mem_cons.mpr ⟨za_ok45, List.forall_mem_cons.mpr ⟨za_ok46, List.forall_mem_cons.mpr ⟨za_ok47, List.forall_mem_cons.mpr ⟨za_ok48, List.forall_mem_cons.mpr ⟨za_ok49, List.forall_mem_cons.mpr ⟨za_ok50, List.forall_mem_cons.mpr ⟨za_ok51, List.forall_mem_cons.mpr ⟨za_ok52, List.forall_mem_cons.mpr ⟨za_ok53, List.forall_mem_cons.mpr ⟨za_ok55, List.forall_mem_cons.mpr ⟨za_ok56, List.forall_mem_cons.mpr ⟨za_ok57, List.forall_mem_cons.mpr ⟨za_ok58, List.forall_mem_cons.mpr ⟨za_ok59, List.forall_mem_cons.mpr ⟨za_ok60, List.forall_mem_cons.mpr ⟨za_ok61, List.forall_mem_cons.mpr ⟨za_ok62, List.forall_mem_cons.mpr ⟨za_ok63, List.forall_mem_cons.mpr ⟨za_ok64, List.forall_mem_cons.mpr ⟨za_ok65, List.forall_mem_cons.mpr ⟨za_ok66, List.forall_mem_cons.mpr ⟨za_ok67, List.forall_mem_cons.mpr ⟨za_ok68, List.forall_mem_cons.mpr ⟨za_ok69, List.forall_mem_cons.mpr ⟨za_ok70, List.forall_mem_cons.mpr ⟨za_ok71, List.forall_mem_cons.mpr ⟨za_ok72, List.forall_mem_cons.mpr ⟨za_ok73, List.forall_mem_cons.mpr ⟨za_ok74, List.forall_mem_cons.mpr ⟨za_ok76, List.forall_mem_cons.mpr ⟨za_ok77, List.forall_mem_cons.mpr ⟨za_ok78, List.forall_mem_cons.mpr ⟨za_ok79, List.forall_mem_cons.mpr ⟨za_ok80, List.forall_mem_cons.mpr ⟨za_ok81, List.forall_mem_cons.mpr ⟨za_ok82, List.forall_mem_cons.mpr ⟨za_ok83, List.forall_mem_cons.mpr ⟨za_ok84, List.forall_mem_cons.mpr ⟨za_ok85, List.forall_mem_cons.mpr ⟨za_ok86, List.forall_mem_cons.mpr ⟨za_ok87, List.forall_mem_cons.mpr ⟨za_ok88, List.forall_mem_cons.mpr ⟨za_ok89, List.forall_mem_cons.mpr ⟨za_ok90, List.forall_mem_cons.mpr ⟨za_ok91, List.forall_mem_cons.mpr ⟨za_ok92, List.forall_mem_cons.mpr ⟨za_ok93, List.forall_mem_cons.mpr ⟨za_ok94, List.forall_mem_cons.mpr ⟨za_ok95, List.forall_mem_cons.mpr ⟨za_ok96, List.forall_mem_cons.mpr ⟨za_ok97, List.forall_mem_cons.mpr ⟨za_ok98, List.forall_mem_cons.mpr ⟨za_ok99, List.forall_mem_cons.mpr ⟨za_ok100, List.forall_mem_cons.mpr ⟨za_ok101, List.forall_mem_cons.mpr ⟨za_ok102, List.forall_mem_cons.mpr ⟨za_ok103, List.forall_mem_cons.mpr ⟨za_ok104, List.forall_mem_cons.mpr ⟨za_ok105, List.forall_mem_cons.mpr ⟨za_ok106, List.forall_mem_cons.mpr ⟨za_ok107, List.forall_mem_cons.mpr ⟨za_ok108, fun _ h => absurd h List.not_mem_nil⟩⟩⟩⟩⟩⟩⟩⟩⟩⟩⟩⟩⟩⟩⟩⟩⟩⟩⟩⟩⟩⟩⟩⟩⟩⟩⟩⟩⟩⟩⟩⟩⟩⟩⟩⟩⟩⟩⟩⟩⟩⟩⟩⟩⟩⟩⟩⟩⟩⟩⟩⟩⟩⟩⟩⟩⟩⟩⟩⟩⟩⟩⟩⟩⟩⟩⟩⟩⟩⟩⟩⟩⟩⟩⟩⟩⟩⟩⟩⟩⟩⟩⟩⟩⟩⟩⟩⟩⟩⟩⟩⟩⟩⟩⟩⟩⟩⟩⟩⟩⟩⟩⟩⟩
def za_mq (q : (Nat × Nat) × Nat) : Prop := q.2 ∈ za_callable ∧ Cond.methodLink (za_cn q.1.1) q.1.2 (za_y q.2) ∈ za_tb
set_option maxRecDepth 100000 in
theorem za_m0 : za_mq ((0, 43), 4) := ⟨by decide, za_mem 192 rfl rfl⟩
set_option maxRecDepth 100000 in
theorem za_m1 : za_mq ((0, 53), 15) := ⟨by decide, za_mem 302 rfl rfl⟩
set_option maxRecDepth 100000 in
theorem za_m2 : za_mq ((0, 56), 11) := ⟨by decide, za_mem 306 rfl rfl⟩
set_option maxRecDepth 100000 in
theorem za_m3 : za_mq ((0, 60), 14) := ⟨by decide, za_mem 307 rfl rfl⟩
set_option maxRecDepth 100000 in
theorem za_m4 : za_mq ((0, 64), 9) := ⟨by decide, za_mem 311 rfl rfl⟩
set_option maxRecDepth 100000 in
theorem za_m5 : za_mq ((0, 67), 13) := ⟨by decide, za_mem 298 rfl rfl⟩
set_option maxRecDepth 100000 in
theorem za_m6 : za_mq ((0, 71), 18) := ⟨by decide, za_mem 312 rfl rfl⟩
set_option maxRecDepth 100000 in
theorem za_m7 : za_mq ((0, 74), 20) := ⟨by decide, za_mem 320 rfl rfl⟩
set_option maxRecDepth 100000 in
theorem za_m8 : za_mq ((0, 77), 19) := ⟨by decide, za_mem 324 rfl rfl⟩
set_option maxRecDepth 100000 in
theorem za_m9 : za_mq ((0, 80), 22) := ⟨by decide, za_mem 328 rfl rfl⟩
set_option maxRecDepth 100000 in
theorem za_m10 : za_mq ((0, 83), 21) := ⟨by decide, za_mem 332 rfl rfl⟩
set_option maxRecDepth 100000 in
theorem za_m11 : za_mq ((0, 86), 17) := ⟨by decide, za_mem 316 rfl rfl⟩
set_option maxRecDepth 100000 in
theorem za_m12 : za_mq ((0, 89), 7) := ⟨by decide, za_mem 336 rfl rfl⟩
set_option maxRecDepth 100000 in
theorem za_m13 : za_mq ((0, 92), 24) := ⟨by decide, za_mem 401 rfl rfl⟩
set_option maxRecDepth 100000 in
theorem za_m14 : za_mq ((0, 95), 25) := ⟨by decide, za_mem 405 rfl rfl⟩
set_option maxRecDepth 100000 in
theorem za_m15 : za_mq ((1, 38), 28) := ⟨by decide, za_mem 145 rfl rfl⟩
set_option maxRecDepth 100000 in
theorem za_m16 : za_mq ((1, 49), 35) := ⟨by decide, za_mem 216 rfl rfl⟩
set_option maxRecDepth 100000 in
theorem za_m17 : za_mq ((1, 52), 38) := ⟨by decide, za_mem 220 rfl rfl⟩
set_option maxRecDepth 100000 in
theorem za_m18 : za_mq ((1, 56), 37) := ⟨by decide, za_mem 261 rfl rfl⟩
set_option maxRecDepth 100000 in
theorem za_m19 : za_mq ((1, 60), 36) := ⟨by decide, za_mem 224 rfl rfl⟩
set_option maxRecDepth 100000 in
theorem za_m20 : za_mq ((1, 63), 39) := ⟨by decide, za_mem 227 rfl rfl⟩
set_option maxRecDepth 100000 in
theorem za_m21 : za_mq ((1, 67), 12) := ⟨by decide, za_mem 231 rfl rfl⟩
set_option maxRecDepth 100000 in
theorem za_m22 : za_mq ((1, 73), 11) := ⟨by decide, za_mem 232 rfl rfl⟩
set_option maxRecDepth 100000 in
theorem za_m23 : za_mq ((1, 76), 40) := ⟨by decide, za_mem 236 rfl rfl⟩
set_option maxRecDepth 100000 in
theorem za_m24 : za_mq ((1, 80), 41) := ⟨by decide, za_mem 243 rfl rfl⟩
set_option maxRecDepth 100000 in
theorem za_m25 : za_mq ((1, 83), 42) := ⟨by decide, za_mem 247 rfl rfl⟩
set_option maxRecDepth 100000 in
theorem za_m26 : za_mq ((1, 86), 43) := ⟨by decide, za_mem 254 rfl rfl⟩
set_option maxRecDepth 100000 in
theorem za_m27 : za_mq ((1, 89), 6) := ⟨by decide, za_mem 230 rfl rfl⟩
set_option maxRecDepth 100000 in
theorem za_m28 : za_mq ((1, 92), 9) := ⟨by decide, za_mem 239 rfl rfl⟩
set_option maxRecDepth 100000 in
theorem za_m29 : za_mq ((1, 96), 10) := ⟨by decide, za_mem 246 rfl rfl⟩
set_option maxRecDepth 100000 in
theorem za_m30 : za_mq ((1, 100), 7) := ⟨by decide, za_mem 250 rfl rfl⟩
set_option maxRecDepth 100000 in
theorem za_m31 : za_mq ((1, 103), 8) := ⟨by decide, za_mem 257 rfl rfl⟩
set_option maxRecDepth 100000 in
theorem za_m32 : za_mq ((2, 15), 1) := ⟨by decide, za_mem 359 rfl rfl⟩
set_option maxRecDepth 100000 in
theorem za_m33 : za_mq ((2, 21), 50) := ⟨by decide, za_mem 360 rfl rfl⟩
set_option maxRecDepth 100000 in
theorem za_m34 : za_mq ((2, 25), 48) := ⟨by decide, za_mem 377 rfl rfl⟩
set_option maxRecDepth 100000 in
theorem za_m35 : za_mq ((2, 30), 12) := ⟨by decide, za_mem 385 rfl rfl⟩
set_option maxRecDepth 100000 in
theorem za_m36 : za_mq ((2, 34), 46) := ⟨by decide, za_mem 380 rfl rfl⟩
set_option maxRecDepth 100000 in
theorem za_m37 : za_mq ((2, 38), 6) := ⟨by decide, za_mem 364 rfl rfl⟩
set_option maxRecDepth 100000 in
theorem za_m38 : za_mq ((2, 42), 49) := ⟨by decide, za_mem 381 rfl rfl⟩
set_option maxRecDepth 100000 in
theorem za_m39 : za_mq ((2, 46), 10) := ⟨by decide, za_mem 365 rfl rfl⟩
set_option maxRecDepth 100000 in
theorem za_m40 : za_mq ((2, 50), 51) := ⟨by decide, za_mem 366 rfl rfl⟩
set_option maxRecDepth 100000 in
theorem za_m41 : za_mq ((2, 54), 52) := ⟨by decide, za_mem 369 rfl rfl⟩
set_option maxRecDepth 100000 in
theorem za_m42 : za_mq ((2, 57), 53) := ⟨by decide, za_mem 373 rfl rfl⟩
set_option maxRecDepth 100000 in
theorem za_m43 : za_mq ((3, 40), 27) := ⟨by decide, za_mem 140 rfl rfl⟩
set_option maxRecDepth 100000 in
theorem za_m44 : za_mq ((3, 44), 29) := ⟨by decide, za_mem 154 rfl rfl⟩
set_option maxRecDepth 100000 in
theorem za_m45 : za_mq ((3, 48), 30) := ⟨by decide, za_mem 162 rfl rfl⟩
set_option maxRecDepth 100000 in
theorem za_m46 : za_mq ((3, 52), 1) := ⟨by decide, za_mem 170 rfl rfl⟩
set_option maxRecDepth 100000 in
theorem za_m47 : za_mq ((3, 53), 6) := ⟨by decide, za_mem 175 rfl rfl⟩
set_option maxRecDepth 100000 in
theorem za_m48 : za_mq ((3, 56), 4) := ⟨by decide, za_mem 183 rfl rfl⟩
set_option maxRecDepth 100000 in
theorem za_m49 : za_mq ((3, 60), 72) := ⟨by decide, za_mem 187 rfl rfl⟩
set_option maxRecDepth 100000 in
theorem za_m50 : za_mq ((3, 63), 5) := ⟨by decide, za_mem 188 rfl rfl⟩
set_option maxRecDepth 100000 in
theorem za_m51 : za_mq ((3, 66), 10) := ⟨by decide, za_mem 193 rfl rfl⟩
set_option maxRecDepth 100000 in
theorem za_m52 : za_mq ((3, 70), 71) := ⟨by decide, za_mem 202 rfl rfl⟩
set_option maxRecDepth 100000 in
theorem za_m53 : za_mq ((3, 73), 12) := ⟨by decide, za_mem 203 rfl rfl⟩
set_option maxRecDepth 100000 in
theorem za_m54 : za_mq ((3, 77), 34) := ⟨by decide, za_mem 212 rfl rfl⟩
set_option maxRecDepth 100000 in
theorem za_m55 : za_mq ((3, 81), 32) := ⟨by decide, za_mem 268 rfl rfl⟩
set_option maxRecDepth 100000 in
theorem za_m56 : za_mq ((3, 84), 33) := ⟨by decide, za_mem 272 rfl rfl⟩
set_option maxRecDepth 100000 in
theorem za_m57 : za_mq ((3, 87), 11) := ⟨by decide, za_mem 280 rfl rfl⟩
set_option maxRecDepth 100000 in
theorem za_m58 : za_mq ((3, 90), 9) := ⟨by decide, za_mem 285 rfl rfl⟩
set_option maxRecDepth 100000 in
theorem za_m59 : za_mq ((3, 94), 7) := ⟨by decide, za_mem 286 rfl rfl⟩
set_option maxRecDepth 100000 in
theorem za_m60 : za_mq ((3, 97), 73) := ⟨by decide, za_mem 291 rfl rfl⟩
set_option maxRecDepth 100000 in
theorem za_m61 : za_mq ((3, 100), 16) := ⟨by decide, za_mem 294 rfl rfl⟩
set_option maxRecDepth 100000 in
theorem za_m62 : za_mq ((3, 104), 13) := ⟨by decide, za_mem 341 rfl rfl⟩
set_option maxRecDepth 100000 in
theorem za_m63 : za_mq ((3, 108), 74) := ⟨by decide, za_mem 346 rfl rfl⟩
set_option maxRecDepth 100000 in
theorem za_m64 : za_mq ((3, 111), 45) := ⟨by decide, za_mem 349 rfl rfl⟩
set_option maxRecDepth 100000 in
theorem za_m65 : za_mq ((3, 114), 46) := ⟨by decide, za_mem 352 rfl rfl⟩
set_option maxRecDepth 100000 in
theorem za_m66 : za_mq ((3, 117), 47) := ⟨by decide, za_mem 355 rfl rfl⟩
set_option maxRecDepth 100000 in
theorem za_m67 : za_mq ((3, 121), 70) := ⟨by decide, za_mem 386 rfl rfl⟩
set_option maxRecDepth 100000 in
theorem za_m68 : za_mq ((3, 125), 2) := ⟨by decide, za_mem 390 rfl rfl⟩
set_option maxRecDepth 100000 in
theorem za_m69 : za_mq ((3, 129), 3) := ⟨by decide, za_mem 417 rfl rfl⟩
set_option maxRecDepth 100000 in
theorem za_m70 : za_mq ((3, 132), 31) := ⟨by decide, za_mem 421 rfl rfl⟩
set_option maxRecDepth 100000 in
theorem za_m71 : za_mq ((3, 135), 23) := ⟨by decide, za_mem 397 rfl rfl⟩
set_option maxRecDepth 100000 in
theorem za_m72 : za_mq ((4, 64), 76) := ⟨by decide, za_mem 512 rfl rfl⟩
set_option maxRecDepth 100000 in
theorem za_m73 : za_mq ((4, 68), 78) := ⟨by decide, za_mem 509 rfl rfl⟩
set_option maxRecDepth 100000 in
theorem za_m74 : za_mq ((4, 72), 79) := ⟨by decide, za_mem 506 rfl rfl⟩
set_option maxRecDepth 100000 in
theorem za_m75 : za_mq ((4, 79), 77) := ⟨by decide, za_mem 531 rfl rfl⟩
set_option maxRecDepth 100000 in
theorem za_m76 : za_mq ((4, 85), 83) := ⟨by decide, za_mem 543 rfl rfl⟩
set_option maxRecDepth 100000 in
theorem za_m77 : za_mq ((4, 92), 90) := ⟨by decide, za_mem 568 rfl rfl⟩
set_option maxRecDepth 100000 in
theorem za_m78 : za_mq ((4, 96), 91) := ⟨by decide, za_mem 564 rfl rfl⟩
set_option maxRecDepth 100000 in
theorem za_m79 : za_mq ((4, 99), 92) := ⟨by decide, za_mem 572 rfl rfl⟩
set_option maxRecDepth 100000 in
theorem za_m80 : za_mq ((4, 102), 93) := ⟨by decide, za_mem 576 rfl rfl⟩
set_option maxRecDepth 100000 in
theorem za_m81 : za_mq ((4, 105), 94) := ⟨by decide, za_mem 580 rfl rfl⟩
set_option maxRecDepth 100000 in
theorem za_m82 : za_mq ((4, 108), 95) := ⟨by decide, za_mem 560 rfl rfl⟩
set_option maxRecDepth 100000 in
theorem za_m83 : za_mq ((4, 115), 98) := ⟨by decide, za_mem 600 rfl rfl⟩
set_option maxRecDepth 100000 in
theorem za_m84 : za_mq ((4, 118), 99) := ⟨by decide, za_mem 604 rfl rfl⟩
set_option maxRecDepth 100000 in
theorem za_m85 : za_mq ((4, 121), 102) := ⟨by decide, za_mem 612 rfl rfl⟩
set_option maxRecDepth 100000 in
theorem za_m86 : za_mq ((4, 124), 82) := ⟨by decide, za_mem 616 rfl rfl⟩
set_option maxRecDepth 100000 in
theorem za_m87 : za_mq ((4, 131), 103) := ⟨by decide, za_mem 592 rfl rfl⟩
set_option maxRecDepth 100000 in
theorem za_m88 : za_mq ((4, 137), 100) := ⟨by decide, za_mem 596 rfl rfl⟩
set_option maxRecDepth 100000 in
theorem za_m89 : za_mq ((4, 141), 101) := ⟨by decide, za_mem 608 rfl rfl⟩
set_option maxRecDepth 100000 in
theorem za_m90 : za_mq ((4, 144), 86) := ⟨by decide, za_mem 617 rfl rfl⟩
set_option maxRecDepth 100000 in
theorem za_m91 : za_mq ((4, 147), 105) := ⟨by decide, za_mem 618 rfl rfl⟩
set_option maxRecDepth 100000 in
theorem za_m92 : za_mq ((4, 150), 104) := ⟨by decide, za_mem 622 rfl rfl⟩
set_option maxRecDepth 100000 in
theorem za_m93 : za_mq ((5, 13), 55) := ⟨by decide, za_mem 136 rfl rfl⟩
set_option maxRecDepth 100000 in
theorem za_m94 : za_mq ((5, 17), 80) := ⟨by decide, za_mem 502 rfl rfl⟩
set_option maxRecDepth 100000 in
theorem za_m95 : za_mq ((5, 18), 56) := ⟨by decide, za_mem 158 rfl rfl⟩
set_option maxRecDepth 100000 in
theorem za_m96 : za_mq ((5, 22), 81) := ⟨by decide, za_mem 515 rfl rfl⟩
set_option maxRecDepth 100000 in
theorem za_m97 : za_mq ((5, 23), 57) := ⟨by decide, za_mem 166 rfl rfl⟩
set_option maxRecDepth 100000 in
theorem za_m98 : za_mq ((5, 26), 82) := ⟨by decide, za_mem 519 rfl rfl⟩
set_option maxRecDepth 100000 in
theorem za_m99 : za_mq ((5, 27), 58) := ⟨by decide, za_mem 171 rfl rfl⟩
set_option maxRecDepth 100000 in
theorem za_m100 : za_mq ((5, 31), 83) := ⟨by decide, za_mem 523 rfl rfl⟩
set_option maxRecDepth 100000 in
theorem za_m101 : za_mq ((5, 32), 59) := ⟨by decide, za_mem 179 rfl rfl⟩
set_option maxRecDepth 100000 in
theorem za_m102 : za_mq ((5, 36), 84) := ⟨by decide, za_mem 527 rfl rfl⟩
set_option maxRecDepth 100000 in
theorem za_m103 : za_mq ((5, 37), 60) := ⟨by decide, za_mem 198 rfl rfl⟩
set_option maxRecDepth 100000 in
theorem za_m104 : za_mq ((5, 41), 85) := ⟨by decide, za_mem 535 rfl rfl⟩
set_option maxRecDepth 100000 in
theorem za_m105 : za_mq ((5, 42), 61) := ⟨by decide, za_mem 208 rfl rfl⟩
set_option maxRecDepth 100000 in
theorem za_m106 : za_mq ((5, 45), 86) := ⟨by decide, za_mem 539 rfl rfl⟩
set_option maxRecDepth 100000 in
theorem za_m107 : za_mq ((5, 46), 62) := ⟨by decide, za_mem 264 rfl rfl⟩
set_option maxRecDepth 100000 in
theorem za_m108 : za_mq ((5, 49), 87) := ⟨by decide, za_mem 544 rfl rfl⟩
set_option maxRecDepth 100000 in
theorem za_m109 : za_mq ((5, 50), 63) := ⟨by decide, za_mem 276 rfl rfl⟩
set_option maxRecDepth 100000 in
theorem za_m110 : za_mq ((5, 53), 88) := ⟨by decide, za_mem 548 rfl rfl⟩
set_option maxRecDepth 100000 in
theorem za_m111 : za_mq ((5, 54), 64) := ⟨by decide, za_mem 281 rfl rfl⟩
set_option maxRecDepth 100000 in
theorem za_m112 : za_mq ((5, 57), 89) := ⟨by decide, za_mem 552 rfl rfl⟩
set_option maxRecDepth 100000 in
theorem za_m113 : za_mq ((5, 58), 65) := ⟨by decide, za_mem 287 rfl rfl⟩
set_option maxRecDepth 100000 in
theorem za_m114 : za_mq ((5, 61), 96) := ⟨by decide, za_mem 556 rfl rfl⟩
set_option maxRecDepth 100000 in
theorem za_m115 : za_mq ((5, 62), 66) := ⟨by decide, za_mem 337 rfl rfl⟩
set_option maxRecDepth 100000 in
theorem za_m116 : za_mq ((5, 66), 97) := ⟨by decide, za_mem 584 rfl rfl⟩
set_option maxRecDepth 100000 in
theorem za_m117 : za_mq ((5, 67), 67) := ⟨by decide, za_mem 342 rfl rfl⟩
set_option maxRecDepth 100000 in
theorem za_m118 : za_mq ((5, 71), 106) := ⟨by decide, za_mem 588 rfl rfl⟩
set_option maxRecDepth 100000 in
theorem za_m119 : za_mq ((5, 72), 68) := ⟨by decide, za_mem 409 rfl rfl⟩
set_option maxRecDepth 100000 in
theorem za_m120 : za_mq ((5, 75), 107) := ⟨by decide, za_mem 626 rfl rfl⟩
set_option maxRecDepth 100000 in
theorem za_m121 : za_mq ((5, 76), 69) := ⟨by decide, za_mem 413 rfl rfl⟩
set_option maxRecDepth 100000 in
theorem za_m122 : za_mq ((5, 79), 108) := ⟨by decide, za_mem 630 rfl rfl⟩
theorem za_m_all : ∀ q ∈ za_ml, za_mq q := List.forall_mem_cons.mpr ⟨za_m0, List.forall_mem_cons.mpr ⟨za_m1, List.forall_mem_cons.mpr ⟨za_m2, List.forall_mem_cons.mpr ⟨za_m3, List.forall_mem_cons.mpr ⟨za_m4, List.forall_mem_cons.mpr ⟨za_m5, List.forall_mem_cons.mpr ⟨za_m6, List.forall_mem_cons.mpr ⟨za_m7, List.forall_mem_cons.mpr ⟨za_m8, List.forall_mem_cons.mpr ⟨za_m9, List.forall_mem_cons.mpr ⟨za_m10, List.forall_mem_cons.mpr ⟨za_m11, List.forall_mem_cons.mpr ⟨za_m12, List.forall_mem_cons.mpr ⟨za_m13, List.forall_mem_cons.mpr ⟨za_m14, List.forall_mem_cons.mpr ⟨za_m15, List.forall_mem_cons.mpr ⟨za_m16, List.forall_mem_cons.mpr ⟨za_m17, List.forall_mem_cons.mpr ⟨za_m18, List.forall_mem_cons.mpr ⟨za_m19, List.forall_mem_cons.mpr ⟨za_m20, List.forall_mem_cons.mpr ⟨za_m21, List.forall_mem_cons.mpr ⟨za_m22, List.forall_mem_cons.mpr ⟨za_m23, List.forall_mem_cons.mpr ⟨za_m24, List.forall_mem_cons.mpr ⟨za_m25, List.forall_mem_cons.mpr ⟨za_m26, List.forall_mem_cons.mpr ⟨za_m27, List.forall_mem_cons.mpr ⟨za_m28, List.forall_mem_cons.mpr ⟨za_m29, List.forall_mem_cons.mpr ⟨za_m30, List.forall_mem_cons.mpr ⟨za_m31, List.forall_mem_cons.mpr ⟨za_m32, List.forall_mem_cons.mpr ⟨za_m33, List.forall_mem_cons.mpr ⟨za_m34, List.forall_mem_cons.mpr ⟨za_m35, List.forall_mem_cons.mpr ⟨za_m36, List.forall_mem_cons.mpr ⟨za_m37, List.forall_mem_cons.mpr ⟨za_m38, List.forall_mem_cons.mpr ⟨za_m39, List.forall_mem_cons.mpr ⟨za_m40, List.forall_mem_cons.mpr ⟨za_m41, List.forall_mem_cons.mpr ⟨za_m42, List.forall_mem_cons.mpr ⟨za_m43, List.forall_mem_cons.mpr ⟨za_m44, List.forall_mem_cons.mpr ⟨za_m45, List.forall_mem_cons.mpr ⟨za_m46, List.forall_mem_cons.mpr ⟨za_m47, List.forall_mem_cons.mpr ⟨za_m48, List.forall_mem_cons.mpr ⟨za_m49, List.forall_mem_cons.mpr ⟨za_m50, List.forall_mem_cons.mpr ⟨za_m51, List.forall_mem_cons.mpr ⟨za_m52, List.forall_mem_cons.mpr ⟨za_m53, List.forall_mem_cons.mpr ⟨za_m54, List.forall_mem_cons.mpr ⟨za_m55, List.forall_mem_cons.mpr ⟨za_m56, List.forall_mem_cons.mpr ⟨za_m57, List.forall_mem_cons.mpr ⟨za_m58, List.forall_mem_cons.mpr ⟨za_m59, List.forall_mem_cons.mpr ⟨za_m60, List.forall_mem_cons.mpr ⟨za_m61, List.forall_mem_cons.mpr ⟨za_m62, List.forall_mem_cons.mpr ⟨za_m63, List.forall_mem_cons.mpr ⟨za_m64, List.forall_mem_cons.mpr ⟨za_m65, List.forall_mem_cons.mpr ⟨za_m66, List.forall_mem_cons.mpr ⟨za_m67, List.forall_mem_cons.mpr ⟨za_m68, List.forall_mem_cons.mpr ⟨za_m69, List.forall_mem_cons.mpr ⟨za_m70, List.forall_mem_cons.mpr ⟨za_m71, List.forall_mem_cons.mpr ⟨za_m72, List.forall_mem_cons.mpr ⟨za_m73, List.forall_mem_cons.mpr ⟨za_m74, List.forall_mem_cons.mpr ⟨za_m75, List.forall_mem_cons.mpr ⟨za_m76, List.forall_mem_cons.mpr ⟨za_m77, List.forall_mem_cons.mpr ⟨za_m78, List.forall_mem_cons.mpr ⟨za_m79, List.forall_mem_cons.mpr ⟨za_m80, List.forall_mem_cons.mpr ⟨za_m81, List.forall_mem_cons.mpr ⟨za_m82, List.forall_mem_cons.mpr ⟨za_m83, List.forall_mem_cons.mpr ⟨za_m84, List.forall_mem_cons.mpr ⟨za_m85, List.forall_mem_cons.mpr ⟨za_m86, List.forall_mem_cons.mpr ⟨za_m87, List.forall_mem_cons.mpr ⟨za_m88, List.forall_mem_cons.mpr ⟨za_m89, List.forall_mem_cons.mpr ⟨za_m90, List.forall_mem_cons.mpr ⟨za_m91, List.forall_mem_cons.mpr ⟨za_m92, List.forall_mem_cons.mpr ⟨za_m93, List.forall_mem_cons.mpr ⟨za_m94, List.forall_mem_cons.mpr ⟨za_m95, List.forall_mem_cons.mpr ⟨za_m96, List.forall_mem_cons.mpr ⟨za_m97, List.forall_mem_cons.mpr ⟨za_m98, List.forall_mem_cons.mpr ⟨za_m99, List.forall_mem_cons.mpr ⟨za_m100, List.forall_mem_cons.mpr ⟨za_m101, List.forall_mem_cons.mpr ⟨za_m102, List.forall_mem_cons.mpr ⟨za_m103, List.forall_mem_cons.mpr ⟨za_m104, List.forall_mem_cons.mpr ⟨za_m105, List.forall_mem_cons.mpr ⟨za_m106, List.forall_mem_cons.mpr ⟨za_m107, List.forall_mem_cons.mpr ⟨za_m108, List.forall_mem_cons.mpr ⟨za_m109, List.forall_mem_cons.mpr ⟨za_m110, List.forall_mem_cons.mpr ⟨za_m111, List.forall_mem_cons.mpr ⟨za_m112, List.forall_mem_cons.mpr ⟨za_m113, List.forall_mem_cons.mpr ⟨za_m114, List.forall_mem_cons.mpr ⟨za_m115, List.forall_mem_cons.mpr ⟨za_m116, List.forall_mem_cons.mpr ⟨za_m117, List.forall_mem_cons.mpr ⟨za_m118, List.forall_mem_cons.mpr ⟨za_m119, List.forall_mem_cons.mpr ⟨za_m120, List.forall_mem_cons.mpr ⟨za_m121, List.forall_mem_cons.mpr ⟨za_m122, fun _ h => absurd h List.not_mem_nil⟩⟩⟩⟩⟩⟩⟩⟩⟩⟩⟩⟩⟩⟩⟩⟩⟩⟩⟩⟩⟩⟩⟩⟩⟩⟩⟩⟩⟩⟩⟩⟩⟩⟩⟩⟩⟩⟩⟩⟩⟩⟩⟩⟩⟩⟩⟩⟩⟩⟩⟩⟩⟩⟩⟩⟩⟩⟩⟩⟩⟩⟩⟩⟩⟩⟩⟩⟩⟩⟩⟩⟩⟩⟩⟩⟩⟩⟩⟩⟩⟩⟩⟩⟩⟩⟩⟩⟩⟩⟩⟩⟩⟩⟩⟩⟩⟩⟩⟩⟩⟩⟩⟩⟩⟩⟩⟩⟩⟩⟩⟩⟩⟩⟩⟩⟩⟩⟩⟩⟩⟩⟩⟩
def za_nq (q : (Nat × Nat) × Nat) : Prop := q.2 ∈ za_callable ∧ Cond.methodLinkNest (za_cn q.1.1) q.1.2 (za_y q.2) "ShapeForms" ∈ lw_tbl
set_option maxRecDepth 100000 in
theorem za_n0 : za_nq ((0, 47), 72) := ⟨by decide, List.mem_of_getElem? (i := 197) rfl⟩
set_option maxRecDepth 100000 in
theorem za_n1 : za_nq ((0, 50), 71) := ⟨by decide, List.mem_of_getElem? (i := 207) rfl⟩
set_option maxRecDepth 100000 in
theorem za_n2 : za_nq ((1, 42), 71) := ⟨by decide, List.mem_of_getElem? (i := 148) rfl⟩
set_option maxRecDepth 100000 in
theorem za_n3 : za_nq ((1, 46), 72) := ⟨by decide, List.mem_of_getElem? (i := 151) rfl⟩
theorem za_n_all : ∀ q ∈ za_nl, za_nq q := List.forall_mem_cons.mpr ⟨za_n0, List.forall_mem_cons.mpr ⟨za_n1, List.forall_mem_cons.mpr ⟨za_n2, List.forall_mem_cons.mpr ⟨za_n3, fun _ h => absurd h List.not_mem_nil⟩⟩⟩⟩
def za_T (ci : Nat) : u_T := (vwCl.getD ci ("", TX0, 0)).2.1
def za_fq (q : (Nat × Nat) × (Nat × Nat)) : Prop := q.2.1 < 5 ∧ q.2.2 < (vwCl.getD q.2.1 ("", TX0, 0)).2.2 ∧ Cond.fieldLink (za_cn q.1.1) q.1.2 (za_T q.2.1 q.2.2).1 (za_T q.2.1 q.2.2).2.1 (za_T q.2.1 q.2.2).2.2.1 ∈ za_tb
set_option maxRecDepth 100000 in
theorem za_f0 : za_fq ((0, 9), (0, 0)) := ⟨by decide, by decide, za_mem 87 rfl rfl⟩
set_option maxRecDepth 100000 in
theorem za_f1 : za_fq ((0, 15), (0, 1)) := ⟨by decide, by decide, za_mem 88 rfl rfl⟩
set_option maxRecDepth 100000 in
theorem za_f2 : za_fq ((0, 18), (0, 2)) := ⟨by decide, by decide, za_mem 89 rfl rfl⟩
set_option maxRecDepth 100000 in
theorem za_f3 : za_fq ((0, 21), (0, 4)) := ⟨by decide, by decide, za_mem 91 rfl rfl⟩
set_option maxRecDepth 100000 in
theorem za_f4 : za_fq ((0, 24), (0, 5)) := ⟨by decide, by decide, za_mem 92 rfl rfl⟩
set_option maxRecDepth 100000 in
theorem za_f5 : za_fq ((0, 32), (0, 3)) := ⟨by decide, by decide, za_mem 90 rfl rfl⟩
set_option maxRecDepth 100000 in
theorem za_f6 : za_fq ((1, 9), (1, 0)) := ⟨by decide, by decide, za_mem 53 rfl rfl⟩
set_option maxRecDepth 100000 in
theorem za_f7 : za_fq ((1, 15), (1, 1)) := ⟨by decide, by decide, za_mem 54 rfl rfl⟩
set_option maxRecDepth 100000 in
theorem za_f8 : za_fq ((1, 18), (1, 2)) := ⟨by decide, by decide, za_mem 55 rfl rfl⟩
set_option maxRecDepth 100000 in
theorem za_f9 : za_fq ((1, 21), (1, 3)) := ⟨by decide, by decide, za_mem 56 rfl rfl⟩
set_option maxRecDepth 100000 in
theorem za_f10 : za_fq ((1, 24), (1, 4)) := ⟨by decide, by decide, za_mem 57 rfl rfl⟩
set_option maxRecDepth 100000 in
theorem za_f11 : za_fq ((1, 28), (1, 5)) := ⟨by decide, by decide, za_mem 58 rfl rfl⟩
set_option maxRecDepth 100000 in
theorem za_f12 : za_fq ((1, 32), (1, 6)) := ⟨by decide, by decide, za_mem 59 rfl rfl⟩
set_option maxRecDepth 100000 in
theorem za_f13 : za_fq ((2, 9), (2, 0)) := ⟨by decide, by decide, za_mem 113 rfl rfl⟩
set_option maxRecDepth 100000 in
theorem za_f14 : za_fq ((3, 10), (3, 0)) := ⟨by decide, by decide, za_mem 117 rfl rfl⟩
set_option maxRecDepth 100000 in
theorem za_f15 : za_fq ((3, 19), (3, 1)) := ⟨by decide, by decide, za_mem 118 rfl rfl⟩
set_option maxRecDepth 100000 in
theorem za_f16 : za_fq ((3, 26), (3, 2)) := ⟨by decide, by decide, za_mem 119 rfl rfl⟩
set_option maxRecDepth 100000 in
theorem za_f17 : za_fq ((3, 30), (3, 3)) := ⟨by decide, by decide, za_mem 120 rfl rfl⟩
set_option maxRecDepth 100000 in
theorem za_f18 : za_fq ((3, 33), (3, 4)) := ⟨by decide, by decide, za_mem 121 rfl rfl⟩
set_option maxRecDepth 100000 in
theorem za_f19 : za_fq ((3, 36), (3, 5)) := ⟨by decide, by decide, za_mem 122 rfl rfl⟩
set_option maxRecDepth 100000 in
theorem za_f20 : za_fq ((4, 7), (4, 1)) := ⟨by decide, by decide, za_mem 433 rfl rfl⟩
set_option maxRecDepth 100000 in
theorem za_f21 : za_fq ((4, 13), (4, 2)) := ⟨by decide, by decide, za_mem 434 rfl rfl⟩
set_option maxRecDepth 100000 in
theorem za_f22 : za_fq ((4, 16), (4, 3)) := ⟨by decide, by decide, za_mem 435 rfl rfl⟩
set_option maxRecDepth 100000 in
theorem za_f23 : za_fq ((4, 19), (4, 5)) := ⟨by decide, by decide, za_mem 437 rfl rfl⟩
set_option maxRecDepth 100000 in
theorem za_f24 : za_fq ((4, 22), (4, 6)) := ⟨by decide, by decide, za_mem 438 rfl rfl⟩
set_option maxRecDepth 100000 in
theorem za_f25 : za_fq ((4, 25), (4, 7)) := ⟨by decide, by decide, za_mem 439 rfl rfl⟩
set_option maxRecDepth 100000 in
theorem za_f26 : za_fq ((4, 28), (4, 8)) := ⟨by decide, by decide, za_mem 440 rfl rfl⟩
set_option maxRecDepth 100000 in
theorem za_f27 : za_fq ((4, 32), (4, 10)) := ⟨by decide, by decide, za_mem 442 rfl rfl⟩
set_option maxRecDepth 100000 in
theorem za_f28 : za_fq ((4, 36), (4, 12)) := ⟨by decide, by decide, za_mem 444 rfl rfl⟩
set_option maxRecDepth 100000 in
theorem za_f29 : za_fq ((4, 40), (4, 13)) := ⟨by decide, by decide, za_mem 445 rfl rfl⟩
set_option maxRecDepth 100000 in
theorem za_f30 : za_fq ((4, 43), (4, 15)) := ⟨by decide, by decide, za_mem 447 rfl rfl⟩
set_option maxRecDepth 100000 in
theorem za_f31 : za_fq ((4, 46), (4, 17)) := ⟨by decide, by decide, za_mem 449 rfl rfl⟩
set_option maxRecDepth 100000 in
theorem za_f32 : za_fq ((4, 49), (4, 18)) := ⟨by decide, by decide, za_mem 450 rfl rfl⟩
set_option maxRecDepth 100000 in
theorem za_f33 : za_fq ((4, 52), (4, 20)) := ⟨by decide, by decide, za_mem 452 rfl rfl⟩
set_option maxRecDepth 100000 in
theorem za_f34 : za_fq ((4, 55), (4, 21)) := ⟨by decide, by decide, za_mem 453 rfl rfl⟩
set_option maxRecDepth 100000 in
theorem za_f35 : za_fq ((4, 58), (4, 22)) := ⟨by decide, by decide, za_mem 454 rfl rfl⟩
set_option maxRecDepth 100000 in
theorem za_f36 : za_fq ((4, 61), (4, 0)) := ⟨by decide, by decide, za_mem 432 rfl rfl⟩
set_option maxRecDepth 100000 in
theorem za_f37 : za_fq ((4, 76), (4, 4)) := ⟨by decide, by decide, za_mem 436 rfl rfl⟩
set_option maxRecDepth 100000 in
theorem za_f38 : za_fq ((4, 82), (4, 9)) := ⟨by decide, by decide, za_mem 441 rfl rfl⟩
set_option maxRecDepth 100000 in
theorem za_f39 : za_fq ((4, 89), (4, 14)) := ⟨by decide, by decide, za_mem 446 rfl rfl⟩
set_option maxRecDepth 100000 in
theorem za_f40 : za_fq ((4, 112), (4, 16)) := ⟨by decide, by decide, za_mem 448 rfl rfl⟩
set_option maxRecDepth 100000 in
theorem za_f41 : za_fq ((4, 128), (4, 19)) := ⟨by decide, by decide, za_mem 451 rfl rfl⟩
set_option maxRecDepth 100000 in
theorem za_f42 : za_fq ((4, 134), (4, 11)) := ⟨by decide, by decide, za_mem 443 rfl rfl⟩
theorem za_f_all : ∀ q ∈ za_fl, za_fq q := List.forall_mem_cons.mpr ⟨za_f0, List.forall_mem_cons.mpr ⟨za_f1, List.forall_mem_cons.mpr ⟨za_f2, List.forall_mem_cons.mpr ⟨za_f3, List.forall_mem_cons.mpr ⟨za_f4, List.forall_mem_cons.mpr ⟨za_f5, List.forall_mem_cons.mpr ⟨za_f6, List.forall_mem_cons.mpr ⟨za_f7, List.forall_mem_cons.mpr ⟨za_f8, List.forall_mem_cons.mpr ⟨za_f9, List.forall_mem_cons.mpr ⟨za_f10, List.forall_mem_cons.mpr ⟨za_f11, List.forall_mem_cons.mpr ⟨za_f12, List.forall_mem_cons.mpr ⟨za_f13, List.forall_mem_cons.mpr ⟨za_f14, List.forall_mem_cons.mpr ⟨za_f15, List.forall_mem_cons.mpr ⟨za_f16, List.forall_mem_cons.mpr ⟨za_f17, List.forall_mem_cons.mpr ⟨za_f18, List.forall_mem_cons.mpr ⟨za_f19, List.forall_mem_cons.mpr ⟨za_f20, List.forall_mem_cons.mpr ⟨za_f21, List.forall_mem_cons.mpr ⟨za_f22, List.forall_mem_cons.mpr ⟨za_f23, List.forall_mem_cons.mpr ⟨za_f24, List.forall_mem_cons.mpr ⟨za_f25, List.forall_mem_cons.mpr ⟨za_f26, List.forall_mem_cons.mpr ⟨za_f27, List.forall_mem_cons.mpr ⟨za_f28, List.forall_mem_cons.mpr ⟨za_f29, List.forall_mem_cons.mpr ⟨za_f30, List.forall_mem_cons.mpr ⟨za_f31, List.forall_mem_cons.mpr ⟨za_f32, List.forall_mem_cons.mpr ⟨za_f33, List.forall_mem_cons.mpr ⟨za_f34, List.forall_mem_cons.mpr ⟨za_f35, List.forall_mem_cons.mpr ⟨za_f36, List.forall_mem_cons.mpr ⟨za_f37, List.forall_mem_cons.mpr ⟨za_f38, List.forall_mem_cons.mpr ⟨za_f39, List.forall_mem_cons.mpr ⟨za_f40, List.forall_mem_cons.mpr ⟨za_f41, List.forall_mem_cons.mpr ⟨za_f42, fun _ h => absurd h List.not_mem_nil⟩⟩⟩⟩⟩⟩⟩⟩⟩⟩⟩⟩⟩⟩⟩⟩⟩⟩⟩⟩⟩⟩⟩⟩⟩⟩⟩⟩⟩⟩⟩⟩⟩⟩⟩⟩⟩⟩⟩⟩⟩⟩⟩
def za_cq (q : (Nat × Nat) × Int32) : Prop := Cond.constant (za_cn q.1.1) q.1.2 q.2 ∈ za_tb
set_option maxRecDepth 100000 in
theorem za_cc0 : za_cq ((0, 36), (-99999999)) := za_mem 86 rfl rfl
set_option maxRecDepth 100000 in
theorem za_cc1 : za_cq ((1, 31), (-99999999)) := za_mem 52 rfl rfl
set_option maxRecDepth 100000 in
theorem za_cc2 : za_cq ((2, 29), (-99999999)) := za_mem 384 rfl rfl
set_option maxRecDepth 100000 in
theorem za_cc3 : za_cq ((4, 31), (-99999999)) := za_mem 431 rfl rfl
theorem za_c_all : ∀ q ∈ za_cl, za_cq q := List.forall_mem_cons.mpr ⟨za_cc0, List.forall_mem_cons.mpr ⟨za_cc1, List.forall_mem_cons.mpr ⟨za_cc2, List.forall_mem_cons.mpr ⟨za_cc3, fun _ h => absurd h List.not_mem_nil⟩⟩⟩⟩
set_option maxRecDepth 100000 in
theorem za_ac : Cond.methodLink RX0 37 arraycopyName ∈ za_tb ∧ Cond.native arraycopyName ∈ za_tb ∧ Cond.static arraycopyName ∈ za_tb ∧ Cond.initialized "java/lang/System" ∈ za_tb := ⟨za_mem 394 rfl rfl, za_mem 396 rfl rfl, za_mem 395 rfl rfl, za_mem 37 rfl rfl⟩
set_option maxRecDepth 100000 in
theorem za_gs : Cond.fieldLink RX1 35 RX1 "KINDS" "[I" ∈ za_tb := za_mem 143 rfl rfl
theorem za_gX0 : ∀ w ∈ wsX00, w ∈ za_tb := fun w h => List.mem_filter.mpr ⟨za_iX0 w h, List.all_eq_true.mp (show wsX00.all goodWord = true by decide +kernel) w h⟩
theorem za_gX1 : ∀ w ∈ wsX10, w ∈ za_tb := fun w h => List.mem_filter.mpr ⟨za_iX1 w h, List.all_eq_true.mp (show wsX10.all goodWord = true by decide +kernel) w h⟩
theorem za_gX2 : ∀ w ∈ wsX20, w ∈ za_tb := fun w h => List.mem_filter.mpr ⟨za_iX2 w h, List.all_eq_true.mp (show wsX20.all goodWord = true by decide +kernel) w h⟩
theorem za_gX3 : ∀ w ∈ wsX30, w ∈ za_tb := fun w h => List.mem_filter.mpr ⟨za_iX3 w h, List.all_eq_true.mp (show wsX30.all goodWord = true by decide +kernel) w h⟩
theorem za_gX4 : ∀ w ∈ wsX40, w ∈ za_tb := fun w h => List.mem_filter.mpr ⟨za_iX4 w h, List.all_eq_true.mp (show wsX40.all goodWord = true by decide +kernel) w h⟩
end
section
/-! the memory as cells of the heap -/
def za_ad (b bs bk k : Nat) : Nat := if k = 100 then bs else if k = 101 then bk else b + k
def za_cv (b bs bk : Nat) (v : Value) : Value := match v with
  | .ref k => .ref (za_ad b bs bk k)
  | v => v
def za_fvs (b : Nat) (M : za_M) (c : Nat) : Nat → List (Option Nat) → List Value
  | _, [] => []
  | k, some q :: fs => .ref (b + q) :: za_fvs b M c (k + 1) fs
  | k, none :: fs => .int (M c k) :: za_fvs b M c (k + 1) fs
def za_cell (cI cZ : ClassId) (b : Nat) (M : za_M) (c : Nat) (x : za_L) : va_E := match x with
  | .inl (ci, fs) => .inr (ci, za_fvs b M c 0 fs)
  | .inr (z, n) => .inl (if z = true then cZ else cI, n, .inl (M c))
def za_W (cI cZ : ClassId) (b : Nat) (M : za_M) : va_W := za_cells.zipIdx.map (fun q => (b + q.2, za_cell cI cZ b M q.2 q.1))
theorem za_W_at (cI cZ : ClassId) (b : Nat) (M : za_M) (c : Nat) : (za_W cI cZ b M)[c]? = za_cells[c]?.map (fun x => (b + c, za_cell cI cZ b M c x)) := by
  simp only [za_W, List.getElem?_map, List.getElem?_zipIdx, Option.map_map, Nat.zero_add]
  rfl
theorem za_at_lt {L c : Nat} (h : c < 42) : za_at L c = za_cells[c]? := by
  unfold za_at
  rw [if_neg (by omega), if_neg (by omega)]
theorem za_ad_lt {b bs bk c : Nat} (h : c < 42) : za_ad b bs bk c = b + c := by
  unfold za_ad
  rw [if_neg (by omega), if_neg (by omega)]
theorem za_W_get {L c : Nat} {x : za_L} (cI cZ : ClassId) (b : Nat) (M : za_M) (hc : c < 42) (h : za_at L c = some x) : (za_W cI cZ b M)[c]? = some (b + c, za_cell cI cZ b M c x) := by
  rw [za_at_lt hc] at h
  rw [za_W_at, h]
  rfl
theorem za_fvs_at (b : Nat) (M : za_M) (c : Nat) : ∀ (fs : List (Option Nat)) (k j : Nat), (za_fvs b M c k fs)[j]? = fs[j]?.map (fun o => match o with
    | some q => Value.ref (b + q)
    | none => Value.int (M c (k + j)))
  | [], k, j => by simp [za_fvs]
  | some q :: fs, k, j => by
    cases j with
    | zero => simp [za_fvs]
    | succ j =>
      simp only [za_fvs, List.getElem?_cons_succ]
      rw [za_fvs_at b M c fs (k + 1) j]
      simp only [Nat.add_assoc, Nat.add_comm 1 j]
  | none :: fs, k, j => by
    cases j with
    | zero => simp [za_fvs]
    | succ j =>
      simp only [za_fvs, List.getElem?_cons_succ]
      rw [za_fvs_at b M c fs (k + 1) j]
      simp only [Nat.add_assoc, Nat.add_comm 1 j]
theorem za_fvs_cg (b : Nat) {M N : za_M} {c : Nat} (h : M c = N c) : ∀ (fs : List (Option Nat)) (k : Nat), za_fvs b M c k fs = za_fvs b N c k fs
  | [], _ => rfl
  | some q :: fs, k => by simp only [za_fvs, za_fvs_cg b h fs (k + 1)]
  | none :: fs, k => by simp only [za_fvs, za_fvs_cg b h fs (k + 1), h]
theorem za_cell_cg (cI cZ : ClassId) (b : Nat) {M N : za_M} {c : Nat} (h : M c = N c) (x : za_L) : za_cell cI cZ b M c x = za_cell cI cZ b N c x := by
  rcases x with ⟨ci, fs⟩ | ⟨z, n⟩
  · simp only [za_cell, za_fvs_cg b h]
  · simp only [za_cell, h]
theorem za_row_ne {M : za_M} {c q : Nat} {f : Nat → Int32} (h : q ≠ c) : za_row M c f q = M q := by simp [za_row, h]
theorem za_row_eq {M : za_M} {c : Nat} {f : Nat → Int32} : za_row M c f c = f := by simp [za_row]
theorem za_fvs_set (b : Nat) (M : za_M) (c k : Nat) (x : Int32) (fs : List (Option Nat)) (h : fs[k]? = some none) : (za_fvs b M c 0 fs).set k (.int x) = za_fvs b (za_up M c k x) c 0 fs := by
  have hl : k < fs.length := (List.getElem?_eq_some_iff.mp h).1
  have hlen : (za_fvs b M c 0 fs).length = fs.length := by
    have : ∀ (fs : List (Option Nat)) (k : Nat), (za_fvs b M c k fs).length = fs.length := by
      intro fs
      induction fs with
      | nil => intro k; rfl
      | cons o fs ih => intro k; cases o <;> simp [za_fvs, ih]
    exact this fs 0
  apply List.ext_getElem?
  intro j
  rw [za_fvs_at]
  by_cases hj : j = k
  · subst hj
    rw [List.getElem?_set_self (by rw [hlen]; exact hl), h]
    simp [za_up, za_row_eq, upd]
  · rw [List.getElem?_set_ne (Ne.symm hj), za_fvs_at]
    cases fs[j]? with
    | none => rfl
    | some o => cases o <;> simp [za_up, za_row_eq, upd, hj]
theorem za_W_set {cI cZ : ClassId} {b : Nat} {M N : za_M} {c : Nat} {x : za_L} {e : va_E} (hx : za_cells[c]? = some x) (hN : ∀ q, q ≠ c → N q = M q) (he : e = za_cell cI cZ b N c x) : (za_W cI cZ b M).set c (b + c, e) = za_W cI cZ b N := by
  have hl : c < (za_W cI cZ b M).length := by
    have h2 : c < za_cells.length := (List.getElem?_eq_some_iff.mp hx).1
    simpa [za_W] using h2
  apply List.ext_getElem?
  intro j
  by_cases hj : j = c
  · subst hj
    rw [List.getElem?_set_self hl, za_W_at, hx, he]
    rfl
  · rw [List.getElem?_set_ne (Ne.symm hj), za_W_at, za_W_at]
    cases za_cells[j]? with
    | none => rfl
    | some y => simp only [Option.map_some, za_cell_cg cI cZ b (hN j hj).symm]
theorem za_WD (cI cZ : ClassId) (b : Nat) (M : za_M) : va_D (fun q => b ≤ q) (za_W cI cZ b M) := by
  have key : ∀ (i : Nat) (p : Nat × va_E), (za_W cI cZ b M)[i]? = some p → p.1 = b + i := by
    intro i p h
    rw [za_W_at] at h
    cases hx : za_cells[i]? with
    | none => rw [hx] at h; cases h
    | some x => rw [hx] at h; cases h; rfl
  refine ⟨fun i j p q hi hj hpq => ?_, fun k q hk => ?_⟩
  · have h1 := key i p hi
    have h2 := key j q hj
    omega
  · have h1 := key k q hk
    show b ≤ q.1
    omega
/-- locals: what the slots hold -/
def za_lv (b bs bk : Nat) (lv : Array Slot) (nL : Nat) (ls : List Value) : Prop := lv.size = nL ∧ ls.length = nL ∧ lv_wf lv ∧ (∀ (i : Nat) (x : Int32), ls[i]? = some (.int x) → lv[i]? = some (.val (.int x))) ∧ (∀ (i r : Nat), ls[i]? = some (.ref r) → lv[i]? = some (.val (.ref (za_ad b bs bk r))))
def za_pr (b bs bk : Nat) (q : Value × Nat) : Option (Nat × Value) := match q.1 with
  | .int x => some (q.2, .int x)
  | .ref r => some (q.2, .ref (za_ad b bs bk r))
  | _ => none
def za_ps (b bs bk : Nat) (ls : List Value) : List (Nat × Value) := ls.zipIdx.filterMap (za_pr b bs bk)
theorem za_ps_int {b bs bk : Nat} {ls : List Value} {i : Nat} {x : Int32} (h : ls[i]? = some (.int x)) : (i, Value.int x) ∈ za_ps b bs bk ls := by
  refine List.mem_filterMap.mpr ⟨(.int x, i), ?_, rfl⟩
  exact List.mem_zipIdx_iff_getElem?.mpr h
theorem za_ps_ref {b bs bk : Nat} {ls : List Value} {i r : Nat} (h : ls[i]? = some (.ref r)) : (i, Value.ref (za_ad b bs bk r)) ∈ za_ps b bs bk ls := by
  refine List.mem_filterMap.mpr ⟨(.ref r, i), ?_, rfl⟩
  exact List.mem_zipIdx_iff_getElem?.mpr h
theorem za_lv_has {b bs bk : Nat} {lv : Array Slot} {nL : Nat} {ls : List Value} (h : za_lv b bs bk lv nL ls) : lv_has lv nL (za_ps b bs bk ls) := by
  obtain ⟨h1, h2, h3, h4, h5⟩ := h
  refine ⟨h1, h3, fun q hq => ?_⟩
  obtain ⟨⟨v, i⟩, hm, hp⟩ := List.mem_filterMap.mp hq
  have hi : ls[i]? = some v := List.mem_zipIdx_iff_getElem?.mp hm
  cases v <;> simp only [za_pr] at hp <;> cases hp
  · exact h4 _ _ hi
  · exact h5 _ _ hi
theorem za_lv_set {b bs bk : Nat} {lv lv' : Array Slot} {nL : Nat} {ls : List Value} {i : Nat} {v : Value} (h : za_lv b bs bk lv nL ls) (hi : i < nL) (hv : (∃ x, v = .int x) ∨ ∃ r, v = .ref r)
    (hl : lv_has lv' nL ((i, za_cv b bs bk v) :: (za_ps b bs bk ls).filter (fun q => !(q.1 == i) && !(q.1 + 1 == i && q.2.category == 2)))) : za_lv b bs bk lv' nL (ls.set i v) := by
  obtain ⟨h1, h2, h3, h4, h5⟩ := h
  obtain ⟨g1, g2, g3⟩ := hl
  have hil : i < ls.length := by omega
  have hit : lv'[i]? = some (.val (za_cv b bs bk v)) := g3 _ List.mem_cons_self
  refine ⟨g1, by rw [List.length_set]; exact h2, g2, fun j x hj => ?_, fun j r hj => ?_⟩
  · by_cases e : j = i
    · subst e
      rw [List.getElem?_set_self hil] at hj
      cases hj
      exact hit
    · rw [List.getElem?_set_ne (Ne.symm e)] at hj
      refine g3 (j, .int x) (List.mem_cons_of_mem _ (List.mem_filter.mpr ⟨za_ps_int hj, ?_⟩))
      simp [e, Value.category]
  · by_cases e : j = i
    · subst e
      rw [List.getElem?_set_self hil] at hj
      cases hj
      exact hit
    · rw [List.getElem?_set_ne (Ne.symm e)] at hj
      refine g3 (j, .ref (za_ad b bs bk r)) (List.mem_cons_of_mem _ (List.mem_filter.mpr ⟨za_ps_ref hj, ?_⟩))
      simp [e, Value.category]
theorem za_sl {vs : List Value} (h : ∀ v ∈ vs, v.category = 1) : lg_sl vs = vs.map Slot.val := by
  induction vs with
  | nil => rfl
  | cons v vs ih =>
    have h1 := h v List.mem_cons_self
    have h2 := ih (fun w hw => h w (List.mem_cons_of_mem _ hw))
    unfold lg_sl at h2 ⊢
    rw [List.flatMap_cons, h2, if_neg (by omega)]
    rfl
theorem za_cv_cat {b bs bk : Nat} {v : Value} : (za_cv b bs bk v).category = v.category := by cases v <;> rfl
theorem za_lv_entry {b bs bk : Nat} {as : List Value} {n : Nat} (h : ∀ v ∈ as, v.category = 1) (hn : as.length ≤ n) : za_lv b bs bk ((lg_sl (as.map (za_cv b bs bk)) ++ List.replicate (n - (lg_sl (as.map (za_cv b bs bk))).length) Slot.unset).toArray) n (as ++ List.replicate (n - as.length) .null) := by
  have hc : ∀ v ∈ as.map (za_cv b bs bk), v.category = 1 := by
    intro v hv
    obtain ⟨w, hw, rfl⟩ := List.mem_map.mp hv
    rw [za_cv_cat]
    exact h w hw
  have hs := za_sl hc
  have hlen : (lg_sl (as.map (za_cv b bs bk))).length = as.length := by rw [hs]; simp
  have hl := lv_entry (as.map (za_cv b bs bk)) (n := n) (by rw [hlen]; exact hn)
  obtain ⟨g1, g2, g3⟩ := hl
  have key : ∀ (i : Nat) (v : Value), (as ++ List.replicate (n - as.length) Value.null)[i]? = some v → v ≠ .null → ((lg_sl (as.map (za_cv b bs bk)) ++ List.replicate (n - (lg_sl (as.map (za_cv b bs bk))).length) Slot.unset).toArray)[i]? = some (.val (za_cv b bs bk v)) := by
    intro i v hi hv
    have hil : i < as.length := by
      rcases Nat.lt_or_ge i as.length with q | q
      · exact q
      · rw [List.getElem?_append_right q, List.getElem?_replicate] at hi
        split at hi
        · cases hi; exact absurd rfl hv
        · cases hi
    rw [List.getElem?_append_left hil] at hi
    rw [List.getElem?_toArray, List.getElem?_append_left (by rw [hlen]; exact hil), hs, List.getElem?_map, List.getElem?_map, hi]
    rfl
  refine ⟨g1, by simp; omega, g2, fun i x hi => key i _ hi (by simp), fun i r hi => key i _ hi (by simp)⟩
end
section
/-! one instruction of the evaluator is one of the machine: all but calls and returns -/
def za_F (D : va_G) (cI cZ : ClassId) (b bs bk L : Nat) (xs ks : Nat → Int32) (s : State) : Prop := va_K D vwCl [(cI, .int), (cZ, .boolean)] s ∧ va_X bs L xs s s.heap ∧ va_X bk 33 ks s s.heap ∧ va_Z RX1 "KINDS" "[I" (.ref bk) (fun q => b ≤ q) s s.heap ∧ (∀ q ∈ za_nl, va_Nw (.methodLinkNest (za_cn q.1.1) q.1.2 (za_y q.2) "ShapeForms") s) ∧ bs < b ∧ bk < b
def za_Fix (D : va_G) (cI cZ : ClassId) (b bs bk L : Nat) (xs ks : Nat → Int32) (p : Program) (s : State) (m : MethodId) (args : Array Value) (c : Code) (y : Nat) (R : Room) (cells slots : Nat) : Prop := p.tables.exec = Jvm.exec ∧ c.code = za_by y ∧ c.maxLocals = za_mx y ∧ s.vm.findClass (za_cn (za_own y)) = some m.cls ∧ (∀ w ∈ za_tb, w.before args s = true) ∧ za_F D cI cZ b bs bk L xs ks s ∧ (za_ht y ≤ R.frames ∧ 31 * za_ht y ≤ R.locals) ∧ cells ≤ R.cells ∧ slots ≤ R.slots
theorem za_w {cc : ByteArray} {pc k n : Nat} {i : Instr} (h : decode cc pc = .ok (i, k)) (hk : k = za_wd i ∨ za_wd i = 0) (hn : za_wd i = n) (h0 : n ≠ 0) : decode cc pc = .ok (i, n) := by
  subst hn
  rcases hk with rfl | hk
  · exact h
  · exact absurd hk h0
theorem za_tg_ok {pc t : Nat} {off : Int} (h : za_tg pc off = some t) : (pc : Int) + off = (t : Int) := by
  unfold za_tg at h
  split at h
  · cases h; omega
  · cases h
theorem za_at_len {L a : Nat} {x : za_L} (h : za_at L a = some x) (h1 : a ≠ 100) (h2 : a ≠ 101) : a < 42 := by
  unfold za_at at h
  rw [if_neg h1, if_neg h2] at h
  exact (List.getElem?_eq_some_iff.mp h).1
theorem za_ln_ok {L a n : Nat} {z : Bool} (h : za_ln L a z = some n) : za_at L a = some (.inr (z, n)) := by
  unfold za_ln at h
  split at h
  · rename_i w k hk
    split at h
    · rename_i e
      cases h
      subst e
      exact hk
    · cases h
  · cases h
def za_cf : Bool := za_cells.all (fun x => match x with
  | .inl (ci, fs) => decide (ci < 5) && (decide (fs.length = (vwCl.getD ci ("", TX0, 0)).2.2) && fs.zipIdx.all (fun q => match q.1 with
    | none => decide (parseFieldDescriptor (za_T ci q.2).2.2.1 = some .int) && !(za_T ci q.2).2.2.2
    | some _ => true))
  | .inr _ => true)
set_option maxRecDepth 100000 in
theorem za_cf_ok : za_cf = true := by decide +kernel
theorem za_obj {c ci : Nat} {fs : List (Option Nat)} (h : za_cells[c]? = some (.inl (ci, fs))) : ci < 5 ∧ fs.length = (vwCl.getD ci ("", TX0, 0)).2.2 ∧ ∀ k, fs[k]? = some none → parseFieldDescriptor (za_T ci k).2.2.1 = some .int ∧ (za_T ci k).2.2.2 = false := by
  have h1 := List.all_eq_true.mp za_cf_ok _ (List.mem_of_getElem? h)
  simp only [Bool.and_eq_true, decide_eq_true_eq] at h1
  refine ⟨h1.1, h1.2.1, fun k hk => ?_⟩
  have h2 := List.all_eq_true.mp h1.2.2 (none, k) (List.mem_zipIdx_iff_getElem?.mpr hk)
  simp only [Bool.and_eq_true, decide_eq_true_eq, Bool.not_eq_true'] at h2
  exact h2
theorem za_clsin {ci : Nat} (h : ci < 5) : ∃ (C : String) (T : u_T) (N : Nat) (ty : Nat → FieldType), vwCl[ci]? = some (C, T, N) ∧ (∀ w ∈ u_ws C T N, w ∈ za_tb) ∧ za_T ci = T ∧ (vwCl.getD ci ("", TX0, 0)).2.2 = N ∧ (∀ k, k < N → parseFieldDescriptor (T k).2.2.1 = some (ty k)) ∧ (∀ a, a < N → ∀ b, b < N → a ≠ b → (T a).2.1 ≠ (T b).2.1) := by
  match ci, h with
  | 0, _ => exact ⟨RX0, TX0, 6, tyX0, rfl, za_gX0, rfl, rfl, tyX0_ok, nmX0⟩
  | 1, _ => exact ⟨RX1, TX1, 7, tyX1, rfl, za_gX1, rfl, rfl, tyX1_ok, nmX1⟩
  | 2, _ => exact ⟨RX2, TX2, 1, tyX2, rfl, za_gX2, rfl, rfl, tyX2_ok, nmX2⟩
  | 3, _ => exact ⟨RX3, TX3, 6, tyX3, rfl, za_gX3, rfl, rfl, tyX3_ok, nmX3⟩
  | 4, _ => exact ⟨RX4, TX4, 23, tyX4, rfl, za_gX4, rfl, rfl, tyX4_ok, nmX4⟩
theorem za_up_ne {M : za_M} {c k q : Nat} {x : Int32} (h : q ≠ c) : za_up M c k x q = M q := za_row_ne h
section ZN
variable {l : Launch} {D : va_G} {cI cZ : ClassId} {b bs bk L : Nat} {xs ks : Nat → Int32} {p : Program} {e : Env} {s : State} {m : MethodId} {args : Array Value} {below : List Frame} {meth : Method} {c : Code} {R : Room} {cells slots : Nat} {Q : State → Prop} {H : Heap} {locs : List Loc} {lv : Array Slot} {y : Nat} {pc : Nat} {ls st : List Value} {M : za_M}
set_option maxHeartbeats 4000000 in
set_option maxRecDepth 100000 in
theorem za_nxt (hfix : za_Fix D cI cZ b bs bk L xs ks p s m args c y R cells slots) (hst : ∀ v ∈ st, v.category = 1) (h100 : M 100 = xs) (h101 : M 101 = ks) (hP : va_P D vwCl (za_W cI cZ b M) H) (hS : va_S (fun q => b ≤ q) s.heap H locs) (hlv : za_lv b bs bk lv (za_mx y) ls)
    {i : Instr} {kn : Nat} (hdg : decode (za_by y) pc = .ok (i, kn)) (hk : kn = za_wd i ∨ za_wd i = 0) {pc1 : Nat} {ls1 st1 : List Value} {M1 : za_M} (hd : za_do L y pc i ls st M = some (.inl (pc1, ls1, st1, M1))) :
    (∀ v ∈ st1, v.category = 1) ∧ M1 100 = xs ∧ M1 101 = ks ∧ ((∀ (H1 : Heap) (locs1 : List Loc) (lv1 : Array Slot), va_P D vwCl (za_W cI cZ b M1) H1 → va_S (fun q => b ≤ q) s.heap H1 locs1 → za_lv b bs bk lv1 (za_mx y) ls1 → W p l e R s m args below meth c H1 locs1 cells slots Q (F0 m pc1 lv1 (st1.map (za_cv b bs bk)))) → W p l e R s m args below meth c H locs cells slots Q (F0 m pc lv (st.map (za_cv b bs bk)))) := by
  obtain ⟨hx, hb, hml, hown, hts, ⟨hK, hXs, hXk, hZ, hN, hbs, hbk⟩, ⟨hRf, hRl⟩, hRc, hRs⟩ := hfix
  have hmx : ls.length = za_mx y := hlv.2.1
  have hWD := za_WD cI cZ b M
  unfold za_do at hd
  split at hd
  -- aload
  · split at hd
    · rename_i r hr
      cases hd
      exact ⟨List.forall_mem_cons.mpr ⟨rfl, hst⟩, h100, h101, fun kk => lv_aload hx hb (za_w hdg hk rfl (by decide)) (hlv.2.2.2.2 _ _ hr) (kk H locs lv hP hS hlv)⟩
    · cases hd
  -- aload_n
  · split at hd
    · rename_i r hr
      cases hd
      exact ⟨List.forall_mem_cons.mpr ⟨rfl, hst⟩, h100, h101, fun kk => lv_aload_n hx hb (za_w hdg hk rfl (by decide)) rfl (hlv.2.2.2.2 _ _ hr) (kk H locs lv hP hS hlv)⟩
    · cases hd
  -- iload
  · split at hd
    · rename_i r hr
      cases hd
      exact ⟨List.forall_mem_cons.mpr ⟨rfl, hst⟩, h100, h101, fun kk => lv_iload hx hb (za_w hdg hk rfl (by decide)) (hlv.2.2.2.1 _ _ hr) (kk H locs lv hP hS hlv)⟩
    · cases hd
  -- iload_n
  · split at hd
    · rename_i r hr
      cases hd
      exact ⟨List.forall_mem_cons.mpr ⟨rfl, hst⟩, h100, h101, fun kk => lv_iload_n hx hb (za_w hdg hk rfl (by decide)) rfl (hlv.2.2.2.1 _ _ hr) (kk H locs lv hP hS hlv)⟩
    · cases hd
  -- istore
  · split at hd
    · split at hd
      · rename_i x st0 hkl
        cases hd
        have hn := hkl
        rw [hmx] at hn
        exact ⟨(List.forall_mem_cons.mp hst).2, h100, h101, fun kk => lv_istore hx hb (za_w hdg hk rfl (by decide)) (za_lv_has hlv) hn rfl (fun lv1 h1 => kk H locs lv1 hP hS (za_lv_set (v := .int x) hlv hn (Or.inl ⟨x, rfl⟩) h1))⟩
      · cases hd
    · cases hd
  -- istore_n
  · split at hd
    · split at hd
      · rename_i x st0 hkl
        cases hd
        have hn := hkl
        rw [hmx] at hn
        exact ⟨(List.forall_mem_cons.mp hst).2, h100, h101, fun kk => lv_istore_n hx hb (za_w hdg hk rfl (by decide)) rfl (za_lv_has hlv) hn rfl (fun lv1 h1 => kk H locs lv1 hP hS (za_lv_set (v := .int x) hlv hn (Or.inl ⟨x, rfl⟩) h1))⟩
      · cases hd
    · cases hd
  -- astore
  · split at hd
    · split at hd
      · rename_i x st0 hkl
        cases hd
        have hn := hkl
        rw [hmx] at hn
        exact ⟨(List.forall_mem_cons.mp hst).2, h100, h101, fun kk => lv_astore hx hb (za_w hdg hk rfl (by decide)) (za_lv_has hlv) hn rfl (fun lv1 h1 => kk H locs lv1 hP hS (za_lv_set (v := .ref x) hlv hn (Or.inr ⟨x, rfl⟩) h1))⟩
      · cases hd
    · cases hd
  -- iinc
  · split at hd
    · rename_i x hr
      cases hd
      have hn := (List.getElem?_eq_some_iff.mp hr).1
      rw [hmx] at hn
      obtain ⟨j, hj⟩ := List.getElem?_of_mem (za_ps_int (b := b) (bs := bs) (bk := bk) hr)
      exact ⟨hst, h100, h101, fun kk => lv_iinc hx hb (za_w hdg hk rfl (by decide)) (za_lv_has hlv) hj rfl hn rfl (fun lv1 h1 => kk H locs lv1 hP hS (za_lv_set (v := .int _) hlv hn (Or.inl ⟨_, rfl⟩) h1))⟩
    · cases hd
  -- iconst
  · cases hd
    exact ⟨List.forall_mem_cons.mpr ⟨rfl, hst⟩, h100, h101, fun kk => lv_iconst hx hb (za_w hdg hk rfl (by decide)) rfl (kk H locs lv hP hS hlv)⟩
  -- bipush
  · cases hd
    exact ⟨List.forall_mem_cons.mpr ⟨rfl, hst⟩, h100, h101, fun kk => lv_bipush hx hb (za_w hdg hk rfl (by decide)) rfl (kk H locs lv hP hS hlv)⟩
  -- sipush
  · cases hd
    exact ⟨List.forall_mem_cons.mpr ⟨rfl, hst⟩, h100, h101, fun kk => lv_sipush hx hb (za_w hdg hk rfl (by decide)) rfl (kk H locs lv hP hS hlv)⟩
  -- ldc
  · split at hd
    · rename_i v hv
      cases hd
      exact ⟨List.forall_mem_cons.mpr ⟨rfl, hst⟩, h100, h101, fun kk => lv_ldc hx hb hown (hts _ (za_c_all _ (za_look_in hv))) (za_w hdg hk rfl (by decide)) (kk H locs lv hP hS hlv)⟩
    · cases hd
  -- iadd
  · split at hd
    · cases hd
      exact ⟨List.forall_mem_cons.mpr ⟨rfl, (List.forall_mem_cons.mp (List.forall_mem_cons.mp hst).2).2⟩, h100, h101, fun kk => lv_iadd hx hb (za_w hdg hk rfl (by decide)) (kk H locs lv hP hS hlv)⟩
    · cases hd
  -- isub
  · split at hd
    · cases hd
      exact ⟨List.forall_mem_cons.mpr ⟨rfl, (List.forall_mem_cons.mp (List.forall_mem_cons.mp hst).2).2⟩, h100, h101, fun kk => lv_isub hx hb (za_w hdg hk rfl (by decide)) (kk H locs lv hP hS hlv)⟩
    · cases hd
  -- imul
  · split at hd
    · cases hd
      exact ⟨List.forall_mem_cons.mpr ⟨rfl, (List.forall_mem_cons.mp (List.forall_mem_cons.mp hst).2).2⟩, h100, h101, fun kk => lv_imul hx hb (za_w hdg hk rfl (by decide)) (kk H locs lv hP hS hlv)⟩
    · cases hd
  -- iand
  · split at hd
    · cases hd
      exact ⟨List.forall_mem_cons.mpr ⟨rfl, (List.forall_mem_cons.mp (List.forall_mem_cons.mp hst).2).2⟩, h100, h101, fun kk => lv_iand hx hb (za_w hdg hk rfl (by decide)) (kk H locs lv hP hS hlv)⟩
    · cases hd
  -- ior
  · split at hd
    · cases hd
      exact ⟨List.forall_mem_cons.mpr ⟨rfl, (List.forall_mem_cons.mp (List.forall_mem_cons.mp hst).2).2⟩, h100, h101, fun kk => lv_ior hx hb (za_w hdg hk rfl (by decide)) (kk H locs lv hP hS hlv)⟩
    · cases hd
  -- ishl
  · split at hd
    · cases hd
      exact ⟨List.forall_mem_cons.mpr ⟨rfl, (List.forall_mem_cons.mp (List.forall_mem_cons.mp hst).2).2⟩, h100, h101, fun kk => lv_ishl hx hb (za_w hdg hk rfl (by decide)) (kk H locs lv hP hS hlv)⟩
    · cases hd
  -- ishr
  · split at hd
    · cases hd
      exact ⟨List.forall_mem_cons.mpr ⟨rfl, (List.forall_mem_cons.mp (List.forall_mem_cons.mp hst).2).2⟩, h100, h101, fun kk => lv_ishr hx hb (za_w hdg hk rfl (by decide)) (kk H locs lv hP hS hlv)⟩
    · cases hd
  -- idiv
  · split at hd
    · split at hd
      · rename_i hne
        cases hd
        exact ⟨List.forall_mem_cons.mpr ⟨rfl, (List.forall_mem_cons.mp (List.forall_mem_cons.mp hst).2).2⟩, h100, h101, fun kk => lv_idiv hx hb (za_w hdg hk rfl (by decide)) hne (kk H locs lv hP hS hlv)⟩
      · cases hd
    · cases hd
  -- irem
  · split at hd
    · split at hd
      · rename_i hne
        cases hd
        exact ⟨List.forall_mem_cons.mpr ⟨rfl, (List.forall_mem_cons.mp (List.forall_mem_cons.mp hst).2).2⟩, h100, h101, fun kk => lv_irem hx hb (za_w hdg hk rfl (by decide)) hne (kk H locs lv hP hS hlv)⟩
      · cases hd
    · cases hd
  -- dup
  · split at hd
    · cases hd
      exact ⟨List.forall_mem_cons.mpr ⟨rfl, hst⟩, h100, h101, fun kk => lv_dup hx hb (za_w hdg hk rfl (by decide)) rfl (kk H locs lv hP hS hlv)⟩
    · cases hd
      exact ⟨List.forall_mem_cons.mpr ⟨rfl, hst⟩, h100, h101, fun kk => lv_dup hx hb (za_w hdg hk rfl (by decide)) rfl (kk H locs lv hP hS hlv)⟩
    · cases hd
  -- pop
  · split at hd
    · cases hd
      exact ⟨(List.forall_mem_cons.mp hst).2, h100, h101, fun kk => lv_pop hx hb (za_w hdg hk rfl (by decide)) rfl (kk H locs lv hP hS hlv)⟩
    · cases hd
  -- goto
  · unfold za_go at hd
    dsimp only at hd
    split at hd
    · rename_i t ht
      cases hd
      exact ⟨hst, h100, h101, fun kk => lv_goto hx hb (za_w hdg hk rfl (by decide)) (za_tg_ok ht) (kk H locs lv hP hS hlv)⟩
    · cases hd
  -- ifCond
  · split at hd
    · split at hd
      · rename_i cnd off _ x st0 _ t ht
        cases hd
        have hdg' := za_w (n := 3) hdg hk rfl (by decide)
        refine ⟨(List.forall_mem_cons.mp hst).2, h100, h101, fun kk => ?_⟩
        cases cnd
        · exact lv_if_eq hx hb hdg' (za_tg_ok ht) (fun h => by have q := kk H locs lv hP hS hlv; rwa [show za_jp .eq x 0 t (pc + 3) = t from if_pos h] at q) (fun h => by have q := kk H locs lv hP hS hlv; rwa [show za_jp .eq x 0 t (pc + 3) = pc + 3 from if_neg h] at q)
        · exact lv_if_ne hx hb hdg' (za_tg_ok ht) (fun h => by have q := kk H locs lv hP hS hlv; rwa [show za_jp .ne x 0 t (pc + 3) = t from if_neg h] at q) (fun h => by have q := kk H locs lv hP hS hlv; rwa [show za_jp .ne x 0 t (pc + 3) = pc + 3 from if_pos h] at q)
        · exact lv_if_lt hx hb hdg' (za_tg_ok ht) (fun h => by have q := kk H locs lv hP hS hlv; rwa [show za_jp .lt x 0 t (pc + 3) = t from if_pos h] at q) (fun h => by have q := kk H locs lv hP hS hlv; rwa [show za_jp .lt x 0 t (pc + 3) = pc + 3 from if_neg h] at q)
        · exact lv_if_ge hx hb hdg' (za_tg_ok ht) (fun h => by have q := kk H locs lv hP hS hlv; rwa [show za_jp .ge x 0 t (pc + 3) = t from if_pos h] at q) (fun h => by have q := kk H locs lv hP hS hlv; rwa [show za_jp .ge x 0 t (pc + 3) = pc + 3 from if_neg h] at q)
        · exact lv_if_gt hx hb hdg' (za_tg_ok ht) (fun h => by have q := kk H locs lv hP hS hlv; rwa [show za_jp .gt x 0 t (pc + 3) = t from if_pos h] at q) (fun h => by have q := kk H locs lv hP hS hlv; rwa [show za_jp .gt x 0 t (pc + 3) = pc + 3 from if_neg h] at q)
        · exact lv_if_le hx hb hdg' (za_tg_ok ht) (fun h => by have q := kk H locs lv hP hS hlv; rwa [show za_jp .le x 0 t (pc + 3) = t from if_pos h] at q) (fun h => by have q := kk H locs lv hP hS hlv; rwa [show za_jp .le x 0 t (pc + 3) = pc + 3 from if_neg h] at q)
      · cases hd
    · cases hd
  -- if_icmp
  · split at hd
    · split at hd
      · rename_i cnd off _ x2 x1 st0 _ t ht
        cases hd
        have hdg' := za_w (n := 3) hdg hk rfl (by decide)
        refine ⟨(List.forall_mem_cons.mp (List.forall_mem_cons.mp hst).2).2, h100, h101, fun kk => ?_⟩
        cases cnd
        · exact lv_icmp_eq hx hb hdg' (za_tg_ok ht) (fun h => by have q := kk H locs lv hP hS hlv; rwa [show za_jp .eq x1 x2 t (pc + 3) = t from if_pos h] at q) (fun h => by have q := kk H locs lv hP hS hlv; rwa [show za_jp .eq x1 x2 t (pc + 3) = pc + 3 from if_neg h] at q)
        · exact lv_icmp_ne hx hb hdg' (za_tg_ok ht) (fun h => by have q := kk H locs lv hP hS hlv; rwa [show za_jp .ne x1 x2 t (pc + 3) = t from if_neg h] at q) (fun h => by have q := kk H locs lv hP hS hlv; rwa [show za_jp .ne x1 x2 t (pc + 3) = pc + 3 from if_pos h] at q)
        · exact lv_icmp_lt hx hb hdg' (za_tg_ok ht) (fun h => by have q := kk H locs lv hP hS hlv; rwa [show za_jp .lt x1 x2 t (pc + 3) = t from if_pos h] at q) (fun h => by have q := kk H locs lv hP hS hlv; rwa [show za_jp .lt x1 x2 t (pc + 3) = pc + 3 from if_neg h] at q)
        · exact lv_icmp_ge hx hb hdg' (za_tg_ok ht) (fun h => by have q := kk H locs lv hP hS hlv; rwa [show za_jp .ge x1 x2 t (pc + 3) = t from if_pos h] at q) (fun h => by have q := kk H locs lv hP hS hlv; rwa [show za_jp .ge x1 x2 t (pc + 3) = pc + 3 from if_neg h] at q)
        · exact lv_icmp_gt hx hb hdg' (za_tg_ok ht) (fun h => by have q := kk H locs lv hP hS hlv; rwa [show za_jp .gt x1 x2 t (pc + 3) = t from if_pos h] at q) (fun h => by have q := kk H locs lv hP hS hlv; rwa [show za_jp .gt x1 x2 t (pc + 3) = pc + 3 from if_neg h] at q)
        · exact lv_icmp_le hx hb hdg' (za_tg_ok ht) (fun h => by have q := kk H locs lv hP hS hlv; rwa [show za_jp .le x1 x2 t (pc + 3) = t from if_pos h] at q) (fun h => by have q := kk H locs lv hP hS hlv; rwa [show za_jp .le x1 x2 t (pc + 3) = pc + 3 from if_neg h] at q)
      · cases hd
    · cases hd
  -- tableswitch
  · split at hd
    · rename_i dflt lo hi offs x st0
      unfold za_go at hd
      split at hd
      · rename_i o ho
        split at hd
        · rename_i t ht
          cases hd
          refine ⟨(List.forall_mem_cons.mp hst).2, h100, h101, fun kk => ?_⟩
          unfold za_off at ho
          split at ho
          · rename_i hout
            cases ho
            exact lv_tableOut hx hb hdg hout (za_tg_ok ht) (kk H locs lv hP hS hlv)
          · rename_i hout
            exact lv_tableIn hx hb hdg (fun q => hout (Or.inl q)) (fun q => hout (Or.inr q)) ho (za_tg_ok ht) (kk H locs lv hP hS hlv)
        · cases hd
      · cases hd
    · cases hd
  -- lookupswitch
  · split at hd
    · split at hd
      · rename_i dflt ps x st0 hps
        unfold za_go at hd
        dsimp only at hd
        split at hd
        · rename_i t ht
          cases hd
          exact ⟨(List.forall_mem_cons.mp hst).2, h100, h101, fun kk => lv_lookup hx hb hdg hps rfl (za_tg_ok ht) (kk H locs lv hP hS hlv)⟩
        · cases hd
      · cases hd
    · cases hd
  -- getfield
  · split at hd
    · split at hd
      · rename_i ix _ h st0 _ ci k hlk
        split at hd
        · rename_i hlt
          split at hd
          · rename_i v hv
            cases hd
            have hf := za_f_all _ (za_look_in hlk)
            obtain ⟨hc5, hkN, hfl⟩ := hf
            obtain ⟨C, T, N, ty, hcl, hin, hT, hNe, hty, hnm⟩ := za_clsin hc5
            dsimp only at hkN hfl
            rw [hNe] at hkN
            rw [hT] at hfl
            unfold za_fv at hv
            split at hv
            · rename_i cj fs hat
              split at hv
              · rename_i hcj
                subst hcj
                have he := za_W_get cI cZ b M hlt hat
                have hcat : v.category = 1 ∧ (za_fvs b M h 0 fs)[k]? = some (za_cv b bs bk v) := by
                  rw [za_fvs_at]
                  have hall : ∀ q, fs[k]? = some (some q) → q < 42 := by
                    intro q hq
                    rw [za_at_lt hlt] at hat
                    have h3 : za_cells.all (fun x => match x with
                      | .inl (_, fs) => fs.all (fun o => match o with
                        | some q => decide (q < 42)
                        | none => true)
                      | .inr _ => true) = true := by decide +kernel
                    have h4 := List.all_eq_true.mp h3 _ (List.mem_of_getElem? hat)
                    have h5 := List.all_eq_true.mp h4 _ (List.mem_of_getElem? hq)
                    exact of_decide_eq_true h5
                  split at hv
                  · rename_i q hq
                    cases hv
                    rw [hq]
                    refine ⟨rfl, ?_⟩
                    show some (Value.ref (b + q)) = some (Value.ref (za_ad b bs bk q))
                    rw [za_ad_lt (hall q hq)]
                  · rename_i hq
                    cases hv
                    rw [hq]
                    refine ⟨rfl, ?_⟩
                    show some (Value.int (M h (0 + k))) = some (Value.int (M h k))
                    rw [Nat.zero_add]
                  · cases hv
                refine ⟨List.forall_mem_cons.mpr ⟨hcat.1, (List.forall_mem_cons.mp hst).2⟩, h100, h101, fun kk => ?_⟩
                have hg := va_get (rest := st0.map (za_cv b bs bk)) (ref := (T k).1) hx hb hts hin hown hK hP h he hcl k hkN (hts _ hfl) (fun _ q => q) hcat.2 (za_w hdg hk rfl (by decide)) (kk H locs lv hP hS hlv)
                rw [← za_ad_lt (b := b) (bs := bs) (bk := bk) hlt] at hg
                exact hg
              · cases hv
            · cases hv
          · cases hd
        · cases hd
      · cases hd
    · cases hd
  -- putfield
  · split at hd
    · split at hd
      · rename_i ix _ x h st0 _ ci k hlk
        split at hd
        · rename_i hlt
          obtain ⟨hlt, hfi⟩ := hlt
          cases hd
          have hf := za_f_all _ (za_look_in hlk)
          obtain ⟨hc5, hkN, hfl⟩ := hf
          obtain ⟨C, T, N, ty, hcl, hin, hT, hNe, hty, hnm⟩ := za_clsin hc5
          dsimp only at hkN hfl
          rw [hNe] at hkN
          rw [hT] at hfl
          unfold za_fi at hfi
          split at hfi
          · rename_i cj fs hat
            simp only [Bool.and_eq_true, decide_eq_true_eq] at hfi
            obtain ⟨hcj, hfi⟩ := hfi
            subst hcj
            have hnone : fs[k]? = some none := by
              split at hfi
              · assumption
              · cases hfi
            have hcell := hat
            rw [za_at_lt hlt] at hcell
            obtain ⟨-, hlen, hint⟩ := za_obj hcell
            have hi2 := hint k hnone
            rw [hT] at hi2
            have he := za_W_get cI cZ b M hlt hat
            have hkl : k < (za_fvs b M h 0 fs).length := by
              have h6 : (za_fvs b M h 0 fs)[k]? = some (.int (M h (0 + k))) := by rw [za_fvs_at, hnone]; rfl
              exact (List.getElem?_eq_some_iff.mp h6).1
            refine ⟨(List.forall_mem_cons.mp (List.forall_mem_cons.mp hst).2).2, by rw [za_up_ne (show (100 : Nat) ≠ h from fun e => absurd hlt (by rw [← e]; decide))]; exact h100, by rw [za_up_ne (show (101 : Nat) ≠ h from fun e => absurd hlt (by rw [← e]; decide))]; exact h101, fun kk => ?_⟩
            have hg := va_put (rest := st1.map (za_cv b bs bk)) (ref := (T k).1) hx hb hts hin ty hty hnm hown hK hP hWD hS h he hcl k hkN (hts _ hfl) (fun _ q => q) hi2.2 (ty := .int) (v := .int x) hi2.1 rfl rfl hkl (za_w hdg hk rfl (by decide)) (fun H1 locs1 hP1 hD1 hS1 => kk H1 locs1 lv (by rw [za_W_set hcell (N := za_up M h k x) (fun q hq => za_up_ne hq) (by rw [za_fvs_set b M h k x fs hnone]; rfl)] at hP1; exact hP1) hS1 hlv)
            rw [← za_ad_lt (b := b) (bs := bs) (bk := bk) hlt] at hg
            exact hg
          · cases hfi
        · cases hd
      · cases hd
    · cases hd
  -- getstatic
  · split at hd
    · rename_i ix hix
      obtain ⟨ho1, rfl⟩ := hix
      cases hd
      refine ⟨List.forall_mem_cons.mpr ⟨rfl, hst⟩, h100, h101, fun kk => ?_⟩
      rw [ho1] at hown
      exact va_gets (ref := RX1) hx hb hZ hS hown (hts _ za_gs) (fun _ q => q) (za_w hdg hk rfl (by decide)) (kk H locs lv hP hS hlv)
    · cases hd
  -- iaload
  · split at hd
    · split at hd
      · rename_i j a st0 _ n hn
        split at hd
        · rename_i hin
          cases hd
          have hat := za_ln_ok hn
          refine ⟨List.forall_mem_cons.mpr ⟨rfl, (List.forall_mem_cons.mp (List.forall_mem_cons.mp hst).2).2⟩, h100, h101, fun kk => ?_⟩
          by_cases ha0 : a = 100
          · subst ha0
            have hnL : n = L := by
              have h7 : za_at L 100 = some (.inr (false, L)) := rfl
              rw [h7] at hat
              cases hat
              rfl
            subst hnL
            have q := kk H locs lv hP hS hlv
            rw [h100] at q
            exact va_sld (b := bs) (H0 := s.heap) (A := fun q => b ≤ q) hx hb hXs (by obtain ⟨scr, h8, -⟩ := hXs; exact (Array.getElem?_eq_some_iff.mp h8).1) (Nat.not_le.mpr hbs) hS hin (za_w hdg hk rfl (by decide)) q
          · by_cases ha1 : a = 101
            · subst ha1
              have hnL : n = 33 := by
                have h7 : za_at L 101 = some (.inr (false, 33)) := rfl
                rw [h7] at hat
                cases hat
                rfl
              subst hnL
              have q := kk H locs lv hP hS hlv
              rw [h101] at q
              exact va_sld (b := bk) (H0 := s.heap) (A := fun q => b ≤ q) hx hb hXk (by obtain ⟨scr, h8, -⟩ := hXk; exact (Array.getElem?_eq_some_iff.mp h8).1) (Nat.not_le.mpr hbk) hS hin (za_w hdg hk rfl (by decide)) q
            · have hlt := za_at_len hat ha0 ha1
              have he := za_W_get cI cZ b M hlt hat
              have hg := va_iald (rest := st0.map (za_cv b bs bk)) hx hb hK hP a 0 he rfl hin (za_w hdg hk rfl (by decide)) (kk H locs lv hP hS hlv)
              rw [← za_ad_lt (b := b) (bs := bs) (bk := bk) hlt] at hg
              exact hg
        · cases hd
      · cases hd
    · cases hd
  -- baload
  · split at hd
    · split at hd
      · rename_i j a st0 _ n hn
        split at hd
        · rename_i hin
          cases hd
          have hat := za_ln_ok hn
          refine ⟨List.forall_mem_cons.mpr ⟨rfl, (List.forall_mem_cons.mp (List.forall_mem_cons.mp hst).2).2⟩, h100, h101, fun kk => ?_⟩
          have ha0 : a ≠ 100 := by rintro rfl; cases hat
          have ha1 : a ≠ 101 := by rintro rfl; cases hat
          have hlt := za_at_len hat ha0 ha1
          have he := za_W_get cI cZ b M hlt hat
          have hg := va_zald (rest := st0.map (za_cv b bs bk)) hx hb hK hP a 1 he rfl hin (za_w hdg hk rfl (by decide)) (kk H locs lv hP hS hlv)
          rw [← za_ad_lt (b := b) (bs := bs) (bk := bk) hlt] at hg
          exact hg
        · cases hd
      · cases hd
    · cases hd
  -- iastore
  · split at hd
    · split at hd
      · rename_i x j a st0 _ n hn
        split at hd
        · rename_i hin
          obtain ⟨hin, hlt⟩ := hin
          cases hd
          have hat := za_ln_ok hn
          have hcell := hat
          rw [za_at_lt hlt] at hcell
          have he := za_W_get cI cZ b M hlt hat
          refine ⟨(List.forall_mem_cons.mp (List.forall_mem_cons.mp (List.forall_mem_cons.mp hst).2).2).2, by rw [za_up_ne (show (100 : Nat) ≠ a from fun e => absurd hlt (by rw [← e]; decide))]; exact h100, by rw [za_up_ne (show (101 : Nat) ≠ a from fun e => absurd hlt (by rw [← e]; decide))]; exact h101, fun kk => ?_⟩
          have hg := va_iast (rest := st1.map (za_cv b bs bk)) hx hb hK hP hWD hS a 0 he rfl (x := x) hin (za_w hdg hk rfl (by decide)) (fun H1 locs1 hP1 hD1 hS1 => kk H1 locs1 lv (by rw [za_W_set hcell (N := za_up M a j.toNatClampNeg x) (fun q hq => za_up_ne hq) (by simp only [za_cell, za_up, za_row_eq])] at hP1; exact hP1) hS1 hlv)
          rw [← za_ad_lt (b := b) (bs := bs) (bk := bk) hlt] at hg
          exact hg
        · cases hd
      · cases hd
    · cases hd
  -- bastore
  · split at hd
    · split at hd
      · rename_i x j a st0 _ n hn
        split at hd
        · rename_i hin
          obtain ⟨hin, hlt, hx01⟩ := hin
          cases hd
          have hat := za_ln_ok hn
          have hcell := hat
          rw [za_at_lt hlt] at hcell
          have he := za_W_get cI cZ b M hlt hat
          have hnar : vp_nar .boolean x = x := by rcases hx01 with rfl | rfl <;> decide +kernel
          refine ⟨(List.forall_mem_cons.mp (List.forall_mem_cons.mp (List.forall_mem_cons.mp hst).2).2).2, by rw [za_up_ne (show (100 : Nat) ≠ a from fun e => absurd hlt (by rw [← e]; decide))]; exact h100, by rw [za_up_ne (show (101 : Nat) ≠ a from fun e => absurd hlt (by rw [← e]; decide))]; exact h101, fun kk => ?_⟩
          have hg := va_zast (rest := st1.map (za_cv b bs bk)) hx hb hK hP hWD hS a 1 he rfl (x := x) hin (za_w hdg hk rfl (by decide)) (fun H1 locs1 hP1 hD1 hS1 => kk H1 locs1 lv (by rw [hnar, za_W_set hcell (N := za_up M a j.toNatClampNeg x) (fun q hq => za_up_ne hq) (by simp only [za_cell, za_up, za_row_eq])] at hP1; exact hP1) hS1 hlv)
          rw [← za_ad_lt (b := b) (bs := bs) (bk := bk) hlt] at hg
          exact hg
        · cases hd
      · cases hd
    · cases hd
  -- arraylength
  · split at hd
    · split at hd
      · rename_i a st0 _ n hn
        cases hd
        have hat := za_ln_ok hn
        refine ⟨List.forall_mem_cons.mpr ⟨rfl, (List.forall_mem_cons.mp hst).2⟩, h100, h101, fun kk => ?_⟩
        by_cases ha0 : a = 100
        · subst ha0
          have hnL : n = L := by
            have h7 : za_at L 100 = some (.inr (false, L)) := rfl
            rw [h7] at hat
            cases hat
            rfl
          subst hnL
          exact va_slen (b := bs) (H0 := s.heap) (A := fun q => b ≤ q) hx hb hXs (by obtain ⟨scr, h8, -⟩ := hXs; exact (Array.getElem?_eq_some_iff.mp h8).1) (Nat.not_le.mpr hbs) hS (za_w hdg hk rfl (by decide)) (kk H locs lv hP hS hlv)
        · by_cases ha1 : a = 101
          · subst ha1
            have hnL : n = 33 := by
              have h7 : za_at L 101 = some (.inr (false, 33)) := rfl
              rw [h7] at hat
              cases hat
              rfl
            subst hnL
            exact va_slen (b := bk) (H0 := s.heap) (A := fun q => b ≤ q) hx hb hXk (by obtain ⟨scr, h8, -⟩ := hXk; exact (Array.getElem?_eq_some_iff.mp h8).1) (Nat.not_le.mpr hbk) hS (za_w hdg hk rfl (by decide)) (kk H locs lv hP hS hlv)
          · have hlt := za_at_len hat ha0 ha1
            have he := za_W_get cI cZ b M hlt hat
            have hg := va_alen (rest := st0.map (za_cv b bs bk)) hx hb hK hP a 0 he (ty := .int) rfl rfl (za_w hdg hk rfl (by decide)) (kk H locs lv hP hS hlv)
            rw [← za_ad_lt (b := b) (bs := bs) (bk := bk) hlt] at hg
            exact hg
      · cases hd
    · cases hd
  -- invokevirtual
  · split at hd
    · unfold za_call at hd
      split at hd
      · split at hd
        · split at hd
          · cases hd
          · cases hd
        · cases hd
      · cases hd
    · cases hd
  -- invokestatic
  · split at hd
    · rename_i ix hix
      obtain ⟨ho0, rfl⟩ := hix
      split at hd
      · rename_i nn dp a sp a0
        split at hd
        · rename_i hg
          obtain ⟨g1, g2, g3, g4, g5, g6⟩ := hg
          split at hd
          · rename_i n0 n1 hn0 hn1
            split at hd
            · rename_i hle
              cases hd
              have hat0 := za_ln_ok hn0
              have hat1 := za_ln_ok hn1
              have he0 := za_W_get cI cZ b M g4 hat0
              have he1 := za_W_get cI cZ b M g5 hat1
              have hcell := hat1
              rw [za_at_lt g5] at hcell
              rw [ho0] at hown
              refine ⟨fun v hv => (by cases hv), by rw [za_row_ne (show (100 : Nat) ≠ a from fun e => absurd g5 (by rw [← e]; decide))]; exact h100, by rw [za_row_ne (show (101 : Nat) ≠ a from fun e => absurd g5 (by rw [← e]; decide))]; exact h101, fun kk => ?_⟩
              have h9 : nativeFrameWords "java/lang/System" "arraycopy" 5 = 7 := by decide +kernel
              have hg := va_copyi (rest := []) hx hb (hml.trans hlv.1.symm) hown (hts _ za_ac.1) (hts _ za_ac.2.1) (hts _ za_ac.2.2.1) (hts _ za_ac.2.2.2) hK hP hWD hS a0 a 0 0 he0 he1 rfl rfl rfl (sp := sp) (dp := dp) (n := nn) g1 g2 g3 hle.1 hle.2 (fun _ _ => rfl) (by omega) (by show 0 + (nativeFrameWords "java/lang/System" "arraycopy" 5 + 11) ≤ R.locals; omega) (za_w hdg hk rfl (by decide)) (fun H1 locs1 hP1 hD1 hS1 => kk H1 locs1 lv (by rw [za_W_set hcell (N := za_row M a (va_cpy (M a0) (M a) sp.toNatClampNeg dp.toNatClampNeg nn.toNatClampNeg)) (fun q hq => za_row_ne hq) (by simp only [za_cell, za_row_eq])] at hP1; exact hP1) hS1 hlv)
              rw [← za_ad_lt (b := b) (bs := bs) (bk := bk) g5, ← za_ad_lt (b := b) (bs := bs) (bk := bk) g4] at hg
              exact hg
            · cases hd
          · cases hd
        · cases hd
      · cases hd
    · split at hd
      · unfold za_call at hd
        split at hd
        · split at hd
          · split at hd
            · cases hd
            · cases hd
          · cases hd
        · cases hd
      · split at hd
        · unfold za_call at hd
          split at hd
          · split at hd
            · split at hd
              · cases hd
              · cases hd
            · cases hd
          · cases hd
        · cases hd
  -- ireturn
  · split at hd
    · split at hd
      · cases hd
      · cases hd
    · cases hd
  -- return
  · split at hd
    · split at hd
      · cases hd
      · cases hd
    · cases hd
  · cases hd
end ZN
end
section
/-! the evaluator is sound: what it answers the machine answers -/
def za_rm (z : Nat) : Room := { frames := za_ht z, cells := 0, slots := 0, locals := 31 * za_ht z }
def za_cw (z : Nat) : List Cond := Cond.code (za_y z) (za_by z) (za_mx z) (za_ret z) :: za_tb
theorem za_cw_good {z : Nat} (hz : z ∈ za_callable) : GoodIn za_tb (za_cw z) := by
  intro w hw
  have hm : w ∈ za_tb := by
    rcases List.mem_cons.mp hw with h | h
    · rw [h]; exact (za_ok_all z hz).1
    · exact h
  exact ⟨hm, good_of_word (List.mem_filter.mp hm).2⟩
theorem za_F_moved {D : va_G} {cI cZ : ClassId} {b bs bk L : Nat} {xs ks : Nat → Int32} {s U : State} {locs : List Loc} (h : za_F D cI cZ b bs bk L xs ks s) (hS : va_S (fun q => b ≤ q) s.heap U.heap locs) (hW : s.WarmedH U.vm) : za_F D cI cZ b bs bk L xs ks U := by
  obtain ⟨hK, hXs, hXk, hZ, hN, hbs, hbk⟩ := h
  refine ⟨va_K.moved hW.alike hK, va_X.moved hW.alike (hXs.kept ?_), va_X.moved hW.alike (hXk.kept ?_), va_Z.moved hW.alike (hZ.kept hS.2.1), fun q hq => va_Nw.warmM hW (hN q hq), hbs, hbk⟩
  · obtain ⟨scr, h8, -⟩ := hXs
    exact hS.2.1 bs (Array.getElem?_eq_some_iff.mp h8).1 (Nat.not_le.mpr hbs)
  · obtain ⟨scr, h8, -⟩ := hXk
    exact hS.2.1 bk (Array.getElem?_eq_some_iff.mp h8).1 (Nat.not_le.mpr hbk)
theorem za_F_call {D : va_G} {cI cZ : ClassId} {b bs bk L : Nat} {xs ks : Nat → Int32} {U : State} (g : JFrame) (mk : MethodId) (a : Array Value) (h : za_F D cI cZ b bs bk L xs ks U) : za_F D cI cZ b bs bk L xs ks (U.calling g mk a) := by
  obtain ⟨hK, hXs, hXk, hZ, hN, hbs, hbk⟩ := h
  exact ⟨va_K.moved (u := U) (U := U.calling g mk a) (Vm.Alike.refl U.vm) hK, va_X.moved (u := U) (U := U.calling g mk a) (Vm.Alike.refl U.vm) hXs, va_X.moved (u := U) (U := U.calling g mk a) (Vm.Alike.refl U.vm) hXk, va_Z.moved (u := U) (U := U.calling g mk a) (Vm.Alike.refl U.vm) hZ, fun q hq => va_Nw.same (u := U) (U := U.calling g mk a) rfl rfl (hN q hq), hbs, hbk⟩
/-- a method's start and end -/
def za_Pc (D : va_G) (cI cZ : ClassId) (b bs bk L : Nat) (xs ks : Nat → Int32) (as : List Value) (M : za_M) : Array Value → State → Prop := va_Pc (as.map (za_cv b bs bk)) (fun U => va_P D vwCl (za_W cI cZ b M) U.heap ∧ za_F D cI cZ b bs bk L xs ks U ∧ M 100 = xs ∧ M 101 = ks)
def za_Qb (D : va_G) (cI cZ : ClassId) (b : Nat) (xs ks : Nat → Int32) (M : za_M) : Unit → State → Prop := fun _ t => va_P D vwCl (za_W cI cZ b M) t.heap ∧ M 100 = xs ∧ M 101 = ks
def za_Qc (D : va_G) (cI cZ : ClassId) (b : Nat) (xs ks : Nat → Int32) (z : Nat) (r : Int32) (M : za_M) : Array Value → State → Outcome → State → Prop := if za_rt z = 0 then va_Qv (fun _ : Unit => True) (za_Qb D cI cZ b xs ks M) (fun q => b ≤ q) else va_Qi (fun r' (_ : Unit) => r' = r) (za_Qb D cI cZ b xs ks M) (fun q => b ≤ q)
theorem za_blind {D : va_G} {cI cZ : ClassId} {b bs bk L : Nat} {xs ks : Nat → Int32} {as : List Value} {M : za_M} : FrameBlind (za_Pc D cI cZ b bs bk L xs ks as M) := fun a U g mk h => ⟨h.1, h.2.1, za_F_call g mk a h.2.2.1, h.2.2.2⟩
def za_Ret (D : va_G) (cI cZ : ClassId) (b : Nat) (xs ks : Nat → Int32) (p : Program) (l : Launch) (e : Env) (s : State) (m : MethodId) (args : Array Value) (below : List Frame) (meth : Method) (c : Code) (R : Room) (cells slots : Nat) (Q : State → Prop) (y : Nat) (r : Int32) (M : za_M) : Prop := ∀ (pc : Nat) (H : Heap) (locs : List Loc) (lv : Array Slot), decode (za_by y) pc = .ok (if za_rt y = 0 then .return_ else .ireturn, 1) → (za_rt y = 1 ∨ (za_rt y = 2 ∧ (r = 0 ∨ r = 1)) ∨ za_rt y = 0) → va_P D vwCl (za_W cI cZ b M) H → va_S (fun q => b ≤ q) s.heap H locs → M 100 = xs → M 101 = ks → W p l e R s m args below meth c H locs cells slots Q (F0 m pc lv (if za_rt y = 0 then [] else [.int r]))
def za_Snd (l : Launch) (D : va_G) (cI cZ : ClassId) (b bs bk L : Nat) (xs ks : Nat → Int32) (n : Nat) : Prop := ∀ (y pc : Nat) (ls st : List Value) (M : za_M) (r : Int32) (M' : za_M), za_ev L n y pc ls st M = some (r, M') → (∀ v ∈ st, v.category = 1) → M 100 = xs → M 101 = ks → ∀ (p : Program) (e : Env) (s : State) (m : MethodId) (args : Array Value) (below : List Frame) (meth : Method) (c : Code) (R : Room) (cells slots : Nat) (Q : State → Prop) (H : Heap) (locs : List Loc) (lv : Array Slot), za_Fix D cI cZ b bs bk L xs ks p s m args c y R cells slots → va_P D vwCl (za_W cI cZ b M) H → va_S (fun q => b ≤ q) s.heap H locs → za_lv b bs bk lv (za_mx y) ls → za_Ret D cI cZ b xs ks p l e s m args below meth c R cells slots Q y r M' → W p l e R s m args below meth c H locs cells slots Q (F0 m pc lv (st.map (za_cv b bs bk)))
section ZM
variable {l : Launch} {D : va_G} {cI cZ : ClassId} {b bs bk L : Nat} {xs ks : Nat → Int32}
set_option maxHeartbeats 4000000 in
theorem za_met {n z : Nat} {as : List Value} {M : za_M} {r : Int32} {M' : za_M} (hs : za_Snd l D cI cZ b bs bk L xs ks n) (hz : z ∈ za_callable) (ha : as.length ≤ za_mx z) (hcat : ∀ v ∈ as, v.category = 1) (he : za_ev L n z 0 (za_ent z as) [] M = some (r, M')) : Met l (za_y z) (za_cw z) (za_rm z) (za_Pc D cI cZ b bs bk L xs ks as M) (za_Qc D cI cZ b xs ks z r M') 0 0 (fun q => b ≤ q) := by
  obtain ⟨hcode, hplain, hcls, -⟩ := za_ok_all z hz
  refine Met.ofW (cc := za_by z) (maxL := za_mx z) (ret := za_ret z) hplain rfl ?_
  intro p e s m args below meth c s₁ B hml hv
  obtain ⟨rfl, hP, hF, h100, h101⟩ := hv
  have hx := B.exec
  have hb := B.bytes
  have hr := B.returns
  have hts := atoms_spec (ws := za_cw z) B.pre
  have hown : s.vm.findClass (za_y z).cls = some m.cls := findClass_of_methodNamed B.named
  have hlocks := B.notSynchronized
  rw [hcls] at hown
  rw [lg_entry_eq]
  refine hs z 0 (za_ent z as) [] M r M' he (fun _ h => absurd h List.not_mem_nil) h100 h101 p e s m _ below meth c _ 0 0 _ s.heap [] _ ⟨hx, hb, hml, hown, fun w h => hts w (List.mem_cons_of_mem _ h), hF, ⟨Nat.le_refl _, Nat.le_refl _⟩, Nat.le_refl _, Nat.le_refl _⟩ hP va_S.rf (za_lv_entry hcat ha) ?_
  intro pc H locs lv hdg hrt hP1 hS1 k100 k101
  have hq : ∀ t : State, t.heap = H → s.WarmedH t.vm → va_P D vwCl (za_W cI cZ b M') t.heap ∧ M' 100 = xs ∧ M' 101 = ks := fun t ht _ => ⟨by rw [ht]; exact hP1, k100, k101⟩
  by_cases h0 : za_rt z = 0
  · rw [if_pos h0] at hdg ⊢
    have hr0 : meth.sig.returnType = none := by rw [hr]; unfold za_ret; rw [h0]; rfl
    unfold za_Qc
    rw [if_pos h0]
    exact W.vret hx hb hr0 (fun t ht hW => ⟨⟨(), rfl, trivial, hq t ht hW⟩, hS1.F ht⟩) (fun q hq => hS1.2.2 q hq) hdg hlocks
  · rw [if_neg h0] at hdg ⊢
    unfold za_Qc
    rw [if_neg h0]
    rcases hrt with h1 | ⟨h2, hr01⟩ | h3
    · have hr1 : meth.sig.returnType = some .int := by rw [hr]; unfold za_ret; rw [h1]; rfl
      exact W.iret hx hb hr1 (fun t ht hW => ⟨⟨r, (), rfl, rfl, hq t ht hW⟩, hS1.F ht⟩) (fun q hq => hS1.2.2 q hq) hdg hlocks
    · have hr2 : meth.sig.returnType = some .boolean := by rw [hr]; unfold za_ret; rw [h2]; rfl
      exact W.zret hx hb hr2 (by rcases hr01 with rfl | rfl <;> rfl) (fun t ht hW => ⟨⟨r, (), rfl, rfl, hq t ht hW⟩, hS1.F ht⟩) (fun q hq => hS1.2.2 q hq) hdg hlocks
    · exact absurd h3 h0
end ZM
theorem za_pop_ok : ∀ (n : Nat) (st acc as st' : List Value), za_pop n st acc = some (as, st') → ∃ ps : List Value, st = ps ++ st' ∧ ps.length = n ∧ as = ps.reverse ++ acc
  | 0, st, acc, as, st', h => by
    cases h
    exact ⟨[], rfl, rfl, rfl⟩
  | n + 1, [], acc, as, st', h => by cases h
  | n + 1, v :: st, acc, as, st', h => by
    obtain ⟨ps, h1, h2, h3⟩ := za_pop_ok n st (v :: acc) as st' h
    exact ⟨v :: ps, by rw [h1]; rfl, by simp [h2], by rw [h3]; simp⟩
theorem za_call_ok {L y z z' : Nat} {v : Bool} {st as st' : List Value} (h : za_call L y z v st = some (.inr (.inl (z', as, st')))) : z' = z ∧ za_ht z < za_ht y ∧ za_st z = !v ∧ st = as.reverse ++ st' ∧ as.length = za_na z ∧ st'.length ≤ 8 ∧ as.length ≤ za_mx z ∧ (v = true → za_rcv L z as = true) := by
  unfold za_call at h
  split at h
  · rename_i h1
    split at h
    · rename_i a1 s1 hp
      split at h
      · rename_i h2
        cases h
        obtain ⟨ps, e1, e2, e3⟩ := za_pop_ok _ _ _ _ _ hp
        rw [List.append_nil] at e3
        refine ⟨rfl, h1.1, h1.2, by rw [e3, List.reverse_reverse]; exact e1, by rw [e3, List.length_reverse]; exact e2, h2.1, h2.2.1, h2.2.2⟩
      · cases h
    · cases h
  · cases h
theorem za_sum {st : List Value} (h : ∀ v ∈ st, v.category = 1) : (st.map fun v => v.category).sum = st.length := by
  induction st with
  | nil => rfl
  | cons v st ih =>
    have h1 := h v List.mem_cons_self
    have h2 := ih (fun w hw => h w (List.mem_cons_of_mem _ hw))
    simp only [List.map_cons, List.sum_cons, List.length_cons]
    omega
section ZC
variable {l : Launch} {D : va_G} {cI cZ : ClassId} {b bs bk L : Nat} {xs ks : Nat → Int32} {p : Program} {e : Env} {s : State} {m : MethodId} {args : Array Value} {below : List Frame} {meth : Method} {c : Code} {R : Room} {cells slots : Nat} {Q : State → Prop} {H : Heap} {locs : List Loc} {lv : Array Slot} {y : Nat} {pc : Nat} {M : za_M}
/-- behind a call: the answer on the stack, the world as the callee left it -/
theorem za_after {z mk : Nat} {rest st0 : List Value} {r1 : Int32} {M1 : za_M} {a : Array Value} (hr : va_Run p l e R s m args below meth c H locs cells slots 0 0 (F0 m pc lv st0) rest (za_Qc D cI cZ b xs ks z r1 M1 a) (fun q => b ≤ q)) (hS : va_S (fun q => b ≤ q) s.heap H locs)
    (kk : ∀ (H1 : Heap) (locs1 : List Loc), va_P D vwCl (za_W cI cZ b M1) H1 → va_S (fun q => b ≤ q) s.heap H1 locs1 → M1 100 = xs → M1 101 = ks → W p l e R s m args below meth c H1 locs1 cells slots Q (F0 m (pc + 3) lv (if za_rt z = 0 then rest else .int r1 :: rest))) : W p l e R s m args below meth c H locs cells slots Q (F0 m pc lv st0) := by
  unfold za_Qc at hr
  by_cases h0 : za_rt z = 0
  · rw [if_pos h0] at hr
    refine va_callv hr hS (fun _ _ h => h) (fun _ h => h) (fun u t H1 locs1 ht hvm hw hB hz1 hk1 hS1 => ?_)
    obtain ⟨b1, b2, b3⟩ := hB
    rw [ht] at b1
    have q := kk H1 locs1 b1 hS1 b2 b3
    rw [if_pos h0] at q
    exact q
  · rw [if_neg h0] at hr
    refine va_calli hr hS (fun _ _ h => h) (fun _ h => h) (fun r' u t H1 locs1 ht hvm hw hB hz1 hk1 hS1 => ?_)
    obtain ⟨b1, b2, b3⟩ := hB
    rw [ht] at b1
    have q := kk H1 locs1 b1 hS1 b2 b3
    rw [if_neg h0] at q
    have hw : r' = r1 := hw
    subst hw
    exact q
end ZC
theorem za_go_inr {pc : Nat} {off : Option Int} {ls st : List Value} {M : za_M} {o : (Nat × List Value × List Value) ⊕ Int32} : ¬ za_go pc off ls st M = some (.inr o) := by
  intro h
  unfold za_go at h
  split at h
  · split at h
    · cases h
    · cases h
  · cases h
set_option maxHeartbeats 4000000 in
set_option maxRecDepth 100000 in
theorem za_do_call {L y pc z : Nat} {i : Instr} {ls st as st1 : List Value} {M : za_M} (hd : za_do L y pc i ls st M = some (.inr (.inl (z, as, st1)))) : (∃ ix z', i = .invokevirtual ix ∧ za_look za_ml (za_own y) ix = some z' ∧ za_call L y z' true st = some (.inr (.inl (z, as, st1)))) ∨ (∃ ix z', i = .invokestatic ix ∧ za_look za_ml (za_own y) ix = some z' ∧ za_call L y z' false st = some (.inr (.inl (z, as, st1)))) ∨ (∃ ix z', i = .invokestatic ix ∧ za_look za_nl (za_own y) ix = some z' ∧ za_call L y z' false st = some (.inr (.inl (z, as, st1)))) := by
  unfold za_do at hd
  split at hd
  all_goals (repeat' split at hd)
  all_goals first
    | (cases hd; done)
    | exact absurd hd za_go_inr
    | exact Or.inl ⟨_, _, rfl, by assumption, hd⟩
    | exact Or.inr (Or.inl ⟨_, _, rfl, by assumption, hd⟩)
    | exact Or.inr (Or.inr ⟨_, _, rfl, by assumption, hd⟩)
theorem za_call_nr {L y z : Nat} {v : Bool} {st : List Value} {r : Int32} : ¬ za_call L y z v st = some (.inr (.inr r)) := by
  intro h
  unfold za_call at h
  split at h
  · split at h
    · split at h
      · cases h
      · cases h
    · cases h
  · cases h
set_option maxHeartbeats 4000000 in
set_option maxRecDepth 100000 in
theorem za_do_ret {L y pc : Nat} {i : Instr} {ls st : List Value} {M : za_M} {r : Int32} (hd : za_do L y pc i ls st M = some (.inr (.inr r))) : (i = .ireturn ∧ st = [.int r] ∧ (za_rt y = 1 ∨ (za_rt y = 2 ∧ (r = 0 ∨ r = 1)))) ∨ (i = .return_ ∧ st = [] ∧ za_rt y = 0) := by
  unfold za_do at hd
  split at hd
  all_goals (repeat' split at hd)
  all_goals first
    | exact absurd hd za_go_inr
    | exact absurd hd za_call_nr
    | (cases hd; exact Or.inl ⟨rfl, rfl, by assumption⟩)
    | (cases hd; exact Or.inr ⟨rfl, rfl, by assumption⟩)
    | (cases hd; done)
set_option maxHeartbeats 4000000 in
set_option maxRecDepth 100000 in
theorem za_sound (l : Launch) (D : va_G) (cI cZ : ClassId) (b bs bk L : Nat) (xs ks : Nat → Int32) : ∀ n : Nat, za_Snd l D cI cZ b bs bk L xs ks n := by
  intro n
  induction n with
  | zero => intro y pc ls st M r M' he; exact absurd he (by simp [za_ev])
  | succ n ih =>
    intro y pc ls st M r M' he hst h100 h101 p e s m args below meth c R cells slots Q H locs lv hfix hP hS hlv hret
    rw [za_ev] at he
    cases hf : za_find (za_tab y) pc with
    | none =>
      have hst0 : za_step L y pc ls st M = none := by simp [za_step, hf]
      rw [hst0] at he
      cases he
    | some i =>
      obtain ⟨kn, hdg, hk⟩ := za_dec hf
      have hst0 : za_step L y pc ls st M = za_do L y pc i ls st M := by simp [za_step, hf]
      rw [hst0] at he
      cases hd : za_do L y pc i ls st M with
      | none => rw [hd] at he; cases he
      | some o =>
        rw [hd] at he
        rcases o with ⟨pc1, ls1, st1, M1⟩ | ⟨z, as, st1⟩ | r1
        · dsimp only at he
          obtain ⟨c1, c2, c3, c4⟩ := za_nxt (l := l) (e := e) (below := below) (meth := meth) (Q := Q) hfix hst h100 h101 hP hS hlv hdg hk hd
          exact c4 (fun H1 locs1 lv1 hP1 hS1 hlv1 => ih y pc1 ls1 st1 M1 r M' he c1 c2 c3 p e s m args below meth c R cells slots Q H1 locs1 lv1 hfix hP1 hS1 hlv1 hret)
        · dsimp only at he
          cases hc : za_ev L n z 0 (za_ent z as) [] M with
          | none => rw [hc] at he; cases he
          | some q =>
            obtain ⟨r1, M1⟩ := q
            rw [hc] at he
            dsimp only at he
            have key : ∀ (v : Bool), za_call L y z v st = some (.inr (.inl (z, as, st1))) → z ∈ za_callable → (∀ w ∈ as, w.category = 1) ∧ (∀ w ∈ st1, w.category = 1) ∧ st.map (za_cv b bs bk) = (as.map (za_cv b bs bk)).reverse ++ st1.map (za_cv b bs bk) ∧ ((za_rm z).frames + 1 ≤ R.frames ∧ 8 + (za_mx z + 11) + (za_rm z).locals ≤ R.locals) ∧ ((st1.map (za_cv b bs bk)).map fun v => v.category).sum ≤ 8 ∧ Met l (za_y z) (za_cw z) (za_rm z) (za_Pc D cI cZ b bs bk L xs ks as M) (za_Qc D cI cZ b xs ks z r1 M1) 0 0 (fun q => b ≤ q) := by
              intro v hcl hz
              obtain ⟨-, k1, k2, k3, k4, k5, k6, k7⟩ := za_call_ok hcl
              have hca : ∀ w ∈ as, w.category = 1 := fun w hw => hst w (by rw [k3]; exact List.mem_append_left _ (List.mem_reverse.mpr hw))
              have hcs : ∀ w ∈ st1, w.category = 1 := fun w hw => hst w (by rw [k3]; exact List.mem_append_right _ hw)
              have hmx := (za_ok_all z hz).2.2.2.2.2.2.2.1
              obtain ⟨-, -, -, -, -, -, ⟨hRf, hRl⟩, -, -⟩ := hfix
              refine ⟨hca, hcs, by rw [k3, List.map_append, List.map_reverse], ⟨?_, ?_⟩, ?_, za_met ih hz k6 hca hc⟩
              · show za_ht z + 1 ≤ R.frames
                omega
              · show 8 + (za_mx z + 11) + 31 * za_ht z ≤ R.locals
                omega
              · rw [za_sum (fun w hw => by obtain ⟨w', hw', rfl⟩ := List.mem_map.mp hw; rw [za_cv_cat]; exact hcs w' hw'), List.length_map]
                exact k5
            have fin : ∀ (H1 : Heap) (locs1 : List Loc), (∀ w ∈ st1, w.category = 1) → va_P D vwCl (za_W cI cZ b M1) H1 → va_S (fun q => b ≤ q) s.heap H1 locs1 → M1 100 = xs → M1 101 = ks → W p l e R s m args below meth c H1 locs1 cells slots Q (F0 m (pc + 3) lv (if za_rt z = 0 then st1.map (za_cv b bs bk) else .int r1 :: st1.map (za_cv b bs bk))) := by
              intro H1 locs1 hcs hP1 hS1 k100 k101
              have hcs2 : ∀ w ∈ (if za_rt z = 0 then st1 else .int r1 :: st1), w.category = 1 := by
                by_cases h0 : za_rt z = 0
                · rw [if_pos h0]; exact hcs
                · rw [if_neg h0]; exact List.forall_mem_cons.mpr ⟨rfl, hcs⟩
              have q := ih y (pc + 3) ls (if za_rt z = 0 then st1 else .int r1 :: st1) M1 r M' he hcs2 k100 k101 p e s m args below meth c R cells slots Q H1 locs1 lv hfix hP1 hS1 hlv hret
              by_cases h0 : za_rt z = 0
              · rw [if_pos h0] at q ⊢; exact q
              · rw [if_neg h0] at q ⊢; exact q
            obtain ⟨hx, hb, hml, hown, hts, hF, hR, hRc, hRs⟩ := id hfix
            have hPU : ∀ U : State, U.heap = H → s.WarmedH U.vm → za_Pc D cI cZ b bs bk L xs ks as M (as.map (za_cv b bs bk)).toArray U := fun U hU hW => ⟨rfl, by rw [hU]; exact hP, za_F_moved hF (by rw [hU]; exact hS) hW, h100, h101⟩
            rcases za_do_call hd with ⟨ix, z', rfl, hlk, hcl⟩ | ⟨ix, z', rfl, hlk, hcl⟩ | ⟨ix, z', rfl, hlk, hcl⟩
            · obtain ⟨rfl, -, k2, k3, k4, k5, k6, k7⟩ := za_call_ok hcl
              have hmq := za_m_all _ (za_look_in hlk)
              obtain ⟨hz, hml2⟩ := hmq
              dsimp only at hz hml2
              obtain ⟨q1, q2, q3, q4, q5, hM⟩ := key true hcl hz
              obtain ⟨o1, o2, o3, o4, o5, o6, o7, o8, o9, o10, o11⟩ := za_ok_all z hz
              have hrc := k7 rfl
              have hz0 : za_st z = false := k2
              obtain ⟨i1, i2⟩ := o11 hz0
              rw [hz0] at o6
              cases as with
              | nil => cases hrc
              | cons v0 As =>
                cases v0 with
                | ref h =>
                  simp only [za_rcv, Bool.and_eq_true, decide_eq_true_eq] at hrc
                  obtain ⟨hlt, hisc⟩ := hrc
                  unfold za_isc at hisc
                  split at hisc
                  · rename_i cj fs hat
                    have hcj : cj = za_own z := of_decide_eq_true hisc
                    subst hcj
                    have hcell := hat
                    rw [za_at_lt hlt] at hcell
                    obtain ⟨hc5, -, -⟩ := za_obj hcell
                    obtain ⟨C, T, N, ty, hvw, -⟩ := za_clsin hc5
                    have hCn : za_cn (za_own z) = C := by
                      have : ∀ c, c < 5 → ∀ (C : String) (T : u_T) (N : Nat), vwCl[c]? = some (C, T, N) → za_cn c = C := by
                        intro c hc C T N h
                        match c, hc with
                        | 0, _ => cases h; rfl
                        | 1, _ => cases h; rfl
                        | 2, _ => cases h; rfl
                        | 3, _ => cases h; rfl
                        | 4, _ => cases h; rfl
                      exact this _ hc5 _ _ _ hvw
                    have hrcv := va_recv hF.1 hP hvw (za_W_get cI cZ b M hlt hat)
                    rw [← za_ad_lt (b := b) (bs := bs) (bk := bk) hlt] at hrcv
                    have hCW : CallW R s args (za_cn (za_own y)) C ix (za_y z) (za_by z) (za_mx z) (za_ret z) (za_cw z) (za_rm z) 0 0 (za_na z - 1) := by
                      refine ⟨callB_of (za_na z - 1) hts (za_cw_good hz) rfl rfl rfl (hts _ o9) (hts _ hml2) ⟨o4, o5, by rw [o6]; rfl⟩ q4, hts _ i1, ?_⟩
                      rw [← hCn]
                      exact hts _ i2
                    have hAl : (As.map (za_cv b bs bk)).length = za_na z - 1 := by
                      rw [List.length_map]
                      have h12 : As.length + 1 = za_na z := k4
                      omega
                    have hstk : st.map (za_cv b bs bk) = (As.map (za_cv b bs bk)).reverse ++ Value.ref (za_ad b bs bk h) :: st1.map (za_cv b bs bk) := by
                      rw [q3]
                      simp [za_cv]
                    have hrun := va_runV (cells := cells) (slots := slots) (locs := locs) (meth := meth) (below := below) (e := e) (g := F0 m pc lv (st.map (za_cv b bs bk))) (rest := st1.map (za_cv b bs bk)) (nL := za_mx y) (index := ix) (As := As.map (za_cv b bs bk)) (b := za_ad b bs bk h) (H := H) (cc := za_by y) (own := za_cn (za_own y)) (Ts := za_tb) ⟨hx, hb, hml, hown, hts⟩ hM hCW ⟨za_blind, hrcv, hPU⟩ rfl hAl hlv.1 hstk (lv_room q5) (za_w hdg hk rfl (by decide)) ⟨hRc, hRs⟩
                    exact za_after (z := z) (mk := 0) hrun hS (fun H1 locs1 a1 a2 a3 a4 => fin H1 locs1 q2 a1 a2 a3 a4)
                  · cases hisc
                | _ => cases hrc
            · obtain ⟨rfl, -, k2, k3, k4, k5, k6, k7⟩ := za_call_ok hcl
              have hmq := za_m_all _ (za_look_in hlk)
              obtain ⟨hz, hml2⟩ := hmq
              dsimp only at hz hml2
              obtain ⟨q1, q2, q3, q4, q5, hM⟩ := key false hcl hz
              obtain ⟨o1, o2, o3, o4, o5, o6, o7, o8, o9, o10, o11⟩ := za_ok_all z hz
              have hz0 : za_st z = true := k2
              rw [hz0] at o6
              have hCB : CallB R s args (za_cn (za_own y)) ix (za_y z) (za_by z) (za_mx z) (za_ret z) (za_cw z) (za_rm z) 0 0 (za_na z) ∧ (Cond.static (za_y z)).before args s = true :=
                ⟨callB_of (za_na z) hts (za_cw_good hz) rfl rfl rfl (hts _ o9) (hts _ hml2) ⟨o4, o5, by rw [o6]; rfl⟩ q4, hts _ (o10 hz0)⟩
              have hrun := va_runS (cells := cells) (slots := slots) (locs := locs) (meth := meth) (below := below) (e := e) (g := F0 m pc lv (st.map (za_cv b bs bk))) (rest := st1.map (za_cv b bs bk)) (nL := za_mx y) (index := ix) (As := as.map (za_cv b bs bk)) (H := H) (cc := za_by y) (own := za_cn (za_own y)) (Ts := za_tb) ⟨hx, hb, hml, hown, hts⟩ hM hCB ⟨za_blind, hPU⟩ rfl (by rw [List.length_map]; exact k4) hlv.1 q3 (lv_room q5) (za_w hdg hk rfl (by decide)) ⟨hRc, hRs⟩
              exact za_after (z := z) (mk := 0) hrun hS (fun H1 locs1 a1 a2 a3 a4 => fin H1 locs1 q2 a1 a2 a3 a4)
            · obtain ⟨rfl, -, k2, k3, k4, k5, k6, k7⟩ := za_call_ok hcl
              have hnl := za_look_in hlk
              have hmq := za_n_all _ hnl
              obtain ⟨hz, -⟩ := hmq
              dsimp only at hz
              obtain ⟨q1, q2, q3, q4, q5, hM⟩ := key false hcl hz
              obtain ⟨o1, o2, o3, o4, o5, o6, o7, o8, o9, o10, o11⟩ := za_ok_all z hz
              have hz0 : za_st z = true := k2
              rw [hz0] at o6
              have hCN : va_CN R s args (za_cn (za_own y)) ix (za_y z) "ShapeForms" (za_by z) (za_mx z) (za_ret z) (za_cw z) (za_rm z) 0 0 (za_na z) ∧ (Cond.static (za_y z)).before args s = true ∧ True :=
                ⟨va_cnB (za_na z) hts (za_cw_good hz) rfl rfl rfl (hF.2.2.2.2.1 _ hnl) (hts _ o9) ⟨o4, o5, by rw [o6]; rfl⟩ q4, hts _ (o10 hz0), trivial⟩
              have hrun := va_runSN (cells := cells) (slots := slots) (locs := locs) (meth := meth) (below := below) (e := e) (g := F0 m pc lv (st.map (za_cv b bs bk))) (rest := st1.map (za_cv b bs bk)) (nL := za_mx y) (index := ix) (As := as.map (za_cv b bs bk)) (H := H) (cc := za_by y) (own := za_cn (za_own y)) (Ts := za_tb) ⟨hx, hb, hml, hown, hts⟩ hM hCN ⟨za_blind, hPU⟩ rfl (by rw [List.length_map]; exact k4) hlv.1 q3 (lv_room q5) (za_w hdg hk rfl (by decide)) ⟨hRc, hRs⟩
              exact za_after (z := z) (mk := 0) hrun hS (fun H1 locs1 a1 a2 a3 a4 => fin H1 locs1 q2 a1 a2 a3 a4)
        · cases he
          rcases za_do_ret hd with ⟨rfl, rfl, hrt⟩ | ⟨rfl, rfl, hrt⟩
          · have h0 : ¬ za_rt y = 0 := by
              rcases hrt with h | ⟨h, -⟩ <;> omega
            have hdg1 := za_w (n := 1) hdg hk rfl (by decide)
            have q := hret pc H locs lv (by rw [if_neg h0]; exact hdg1) (by rcases hrt with h | h; exact Or.inl h; exact Or.inr (Or.inl h)) hP hS h100 h101
            rw [if_neg h0] at q
            exact q
          · have hdg1 := za_w (n := 1) hdg hk rfl (by decide)
            have q := hret pc H locs lv (by rw [if_pos hrt]; exact hdg1) (Or.inr (Or.inr hrt)) hP hS h100 h101
            rw [if_pos hrt] at q
            exact q
end
