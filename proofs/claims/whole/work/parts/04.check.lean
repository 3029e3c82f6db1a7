/-! the printed data against the class files: decided by program -/
def za_wd (i : Instr) : Nat := match i with
  | .aload _ => 2
  | .iload _ => 2
  | .istore _ => 2
  | .astore _ => 2
  | .iinc _ _ => 3
  | .bipush _ => 2
  | .sipush _ => 3
  | .ldc _ => 2
  | .goto _ => 3
  | .ifCond _ _ => 3
  | .if_icmp _ _ => 3
  | .getfield _ => 3
  | .putfield _ => 3
  | .getstatic _ => 3
  | .invokevirtual _ => 3
  | .invokestatic _ => 3
  | .tableswitch _ _ _ _ => 0
  | .lookupswitch _ _ => 0
  | _ => 1
def za_dk (cc : ByteArray) (q : Nat × Instr) : Bool := match decode cc q.1 with
  | .ok (i, n) => decide (i = q.2) && (decide (n = za_wd i) || decide (za_wd i = 0))
  | .error _ => false
theorem za_dk_ok {cc : ByteArray} {q : Nat × Instr} (h : za_dk cc q = true) : ∃ n, decode cc q.1 = .ok (q.2, n) ∧ (n = za_wd q.2 ∨ za_wd q.2 = 0) := by
  unfold za_dk at h
  split at h
  · rename_i i n hd
    simp only [Bool.and_eq_true, Bool.or_eq_true, decide_eq_true_eq] at h
    obtain ⟨rfl, h2⟩ := h
    exact ⟨n, hd, h2⟩
  · cases h
theorem za_find_in {l : List (Nat × Instr)} {pc : Nat} {i : Instr} (h : za_find l pc = some i) : (pc, i) ∈ l := by
  induction l with
  | nil => cases h
  | cons q l ih =>
    unfold za_find at h
    split at h
    · rename_i e
      cases h
      subst e
      exact List.mem_cons_self
    · exact List.mem_cons_of_mem _ (ih h)
theorem za_look_in {α : Type} {l : List ((Nat × Nat) × α)} {a b : Nat} {v : α} (h : za_look l a b = some v) : ((a, b), v) ∈ l := by
  induction l with
  | nil => cases h
  | cons q l ih =>
    unfold za_look at h
    split at h
    · rename_i e
      split at h
      · rename_i e2
        cases h
        subst e e2
        exact List.mem_cons_self
      · exact List.mem_cons_of_mem _ (ih h)
    · exact List.mem_cons_of_mem _ (ih h)
theorem za_d0 : za_t0.all (za_dk cX0_init) = true := by decide +kernel
theorem za_d1 : za_t1.all (za_dk cX0_drop) = true := by decide +kernel
theorem za_d2 : za_t2.all (za_dk cX0_become) = true := by decide +kernel
theorem za_d3 : za_t3.all (za_dk cX0_nodes) = true := by decide +kernel
theorem za_d4 : za_t4.all (za_dk cX0_isNode) = true := by decide +kernel
theorem za_d5 : za_t5.all (za_dk cX0_isNodeOrNone) = true := by decide +kernel
theorem za_d6 : za_t6.all (za_dk cX0_add) = true := by decide +kernel
theorem za_d7 : za_t7.all (za_dk cX0_key) = true := by decide +kernel
theorem za_d8 : za_t8.all (za_dk cX0_setKey) = true := by decide +kernel
theorem za_d9 : za_t9.all (za_dk cX0_target) = true := by decide +kernel
theorem za_d10 : za_t10.all (za_dk cX0_setTarget) = true := by decide +kernel
theorem za_d11 : za_t11.all (za_dk cX0_variable) = true := by decide +kernel
theorem za_d12 : za_t12.all (za_dk cX0_setVariable) = true := by decide +kernel
theorem za_d13 : za_t13.all (za_dk cX0_reach) = true := by decide +kernel
theorem za_d14 : za_t14.all (za_dk cX0_mark) = true := by decide +kernel
theorem za_d15 : za_t15.all (za_dk cX0_clearMarks) = true := by decide +kernel
theorem za_d16 : za_t16.all (za_dk cX0_hasForm) = true := by decide +kernel
theorem za_d17 : za_t17.all (za_dk cX0_behindLast) = true := by decide +kernel
theorem za_d18 : za_t18.all (za_dk cX0_isList) = true := by decide +kernel
theorem za_d19 : za_t19.all (za_dk cX0_isRing) = true := by decide +kernel
theorem za_d20 : za_t20.all (za_dk cX0_linksBack) = true := by decide +kernel
theorem za_d21 : za_t21.all (za_dk cX0_neverFalls) = true := by decide +kernel
theorem za_d22 : za_t22.all (za_dk cX0_isTree) = true := by decide +kernel
theorem za_d23 : za_t23.all (za_dk cX0_keepsKeys) = true := by decide +kernel
theorem za_d24 : za_t24.all (za_dk cX0_reachedWith) = true := by decide +kernel
theorem za_d25 : za_t25.all (za_dk cX0_nodesWith) = true := by decide +kernel
theorem za_d26 : za_t26.all (za_dk cX1_init) = true := by decide +kernel
theorem za_d27 : za_t27.all (za_dk cX1_isInstruction) = true := by decide +kernel
theorem za_d28 : za_t28.all (za_dk cX1_fits) = true := by decide +kernel
theorem za_d29 : za_t29.all (za_dk cX1_add) = true := by decide +kernel
theorem za_d30 : za_t30.all (za_dk cX1_drop) = true := by decide +kernel
theorem za_d31 : za_t31.all (za_dk cX1_length) = true := by decide +kernel
theorem za_d32 : za_t32.all (za_dk cX1_stepsDone) = true := by decide +kernel
theorem za_d33 : za_t33.all (za_dk cX1_lastStep) = true := by decide +kernel
theorem za_d34 : za_t34.all (za_dk cX1_execute) = true := by decide +kernel
theorem za_d35 : za_t35.all (za_dk cX1_isInside) = true := by decide +kernel
theorem za_d36 : za_t36.all (za_dk cX1_stop) = true := by decide +kernel
theorem za_d37 : za_t37.all (za_dk cX1_outcomeOf) = true := by decide +kernel
theorem za_d38 : za_t38.all (za_dk cX1_step) = true := by decide +kernel
theorem za_d39 : za_t39.all (za_dk cX1_makeNode) = true := by decide +kernel
theorem za_d40 : za_t40.all (za_dk cX1_getLink) = true := by decide +kernel
theorem za_d41 : za_t41.all (za_dk cX1_putLink) = true := by decide +kernel
theorem za_d42 : za_t42.all (za_dk cX1_branchIfLess) = true := by decide +kernel
theorem za_d43 : za_t43.all (za_dk cX1_changeKey) = true := by decide +kernel
theorem za_d44 : za_t44.all (za_dk cX2_init) = true := by decide +kernel
theorem za_d45 : za_t45.all (za_dk cX2_leastSize) = true := by decide +kernel
theorem za_d46 : za_t46.all (za_dk cX2_rows) = true := by decide +kernel
theorem za_d47 : za_t47.all (za_dk cX2_build) = true := by decide +kernel
theorem za_d48 : za_t48.all (za_dk cX2_buildChain) = true := by decide +kernel
theorem za_d49 : za_t49.all (za_dk cX2_linkChain) = true := by decide +kernel
theorem za_d50 : za_t50.all (za_dk cX2_buildTree) = true := by decide +kernel
theorem za_d51 : za_t51.all (za_dk cX2_linksOf) = true := by decide +kernel
theorem za_d52 : za_t52.all (za_dk cX2_leaveWaiting) = true := by decide +kernel
theorem za_d53 : za_t53.all (za_dk cX2_pushWaiting) = true := by decide +kernel
theorem za_d54 : za_t54.all (za_dk cX3_init) = true := by decide +kernel
theorem za_d55 : za_t55.all (za_dk cX3_op) = true := by decide +kernel
theorem za_d56 : za_t56.all (za_dk cX3_clear) = true := by decide +kernel
theorem za_d57 : za_t57.all (za_dk cX3_empty) = true := by decide +kernel
theorem za_d58 : za_t58.all (za_dk cX3_node) = true := by decide +kernel
theorem za_d59 : za_t59.all (za_dk cX3_link) = true := by decide +kernel
theorem za_d60 : za_t60.all (za_dk cX3_hold) = true := by decide +kernel
theorem za_d61 : za_t61.all (za_dk cX3_run) = true := by decide +kernel
theorem za_d62 : za_t62.all (za_dk cX3_told) = true := by decide +kernel
theorem za_d63 : za_t63.all (za_dk cX3_held) = true := by decide +kernel
theorem za_d64 : za_t64.all (za_dk cX3_of) = true := by decide +kernel
theorem za_d65 : za_t65.all (za_dk cX3_form) = true := by decide +kernel
theorem za_d66 : za_t66.all (za_dk cX3_size) = true := by decide +kernel
theorem za_d67 : za_t67.all (za_dk cX3_claim) = true := by decide +kernel
theorem za_d68 : za_t68.all (za_dk cX3_why) = true := by decide +kernel
theorem za_d69 : za_t69.all (za_dk cX3_count) = true := by decide +kernel
theorem za_d70 : za_t70.all (za_dk cX3_tryStart) = true := by decide +kernel
theorem za_d71 : za_t71.all (za_dk cX3_isVariable) = true := by decide +kernel
theorem za_d72 : za_t72.all (za_dk cX3_isLink) = true := by decide +kernel
theorem za_d73 : za_t73.all (za_dk cX3_isForm) = true := by decide +kernel
theorem za_d74 : za_t74.all (za_dk cX3_isStartForm) = true := by decide +kernel
theorem za_d75 : za_t75.all (za_dk cX4_init) = true := by decide +kernel
theorem za_d76 : za_t76.all (za_dk cX4_isIn) = true := by decide +kernel
theorem za_d77 : za_t77.all (za_dk cX4_isNode) = true := by decide +kernel
theorem za_d78 : za_t78.all (za_dk cX4_isVariable) = true := by decide +kernel
theorem za_d79 : za_t79.all (za_dk cX4_isRight) = true := by decide +kernel
theorem za_d80 : za_t80.all (za_dk cX4_op) = true := by decide +kernel
theorem za_d81 : za_t81.all (za_dk cX4_clear) = true := by decide +kernel
theorem za_d82 : za_t82.all (za_dk cX4_empty) = true := by decide +kernel
theorem za_d83 : za_t83.all (za_dk cX4_node) = true := by decide +kernel
theorem za_d84 : za_t84.all (za_dk cX4_link) = true := by decide +kernel
theorem za_d85 : za_t85.all (za_dk cX4_hold) = true := by decide +kernel
theorem za_d86 : za_t86.all (za_dk cX4_run) = true := by decide +kernel
theorem za_d87 : za_t87.all (za_dk cX4_told) = true := by decide +kernel
theorem za_d88 : za_t88.all (za_dk cX4_held) = true := by decide +kernel
theorem za_d89 : za_t89.all (za_dk cX4_of) = true := by decide +kernel
theorem za_d90 : za_t90.all (za_dk cX4_gather) = true := by decide +kernel
theorem za_d91 : za_t91.all (za_dk cX4_ends) = true := by decide +kernel
theorem za_d92 : za_t92.all (za_dk cX4_isDoubly) = true := by decide +kernel
theorem za_d93 : za_t93.all (za_dk cX4_isTree) = true := by decide +kernel
theorem za_d94 : za_t94.all (za_dk cX4_isSorted) = true := by decide +kernel
theorem za_d95 : za_t95.all (za_dk cX4_has) = true := by decide +kernel
theorem za_d96 : za_t96.all (za_dk cX4_form) = true := by decide +kernel
theorem za_d97 : za_t97.all (za_dk cX4_size) = true := by decide +kernel
theorem za_d98 : za_t98.all (za_dk cX4_isTreeOf) = true := by decide +kernel
theorem za_d99 : za_t99.all (za_dk cX4_isAhead) = true := by decide +kernel
theorem za_d100 : za_t100.all (za_dk cX4_makesTrees) = true := by decide +kernel
theorem za_d101 : za_t101.all (za_dk cX4_starts) = true := by decide +kernel
theorem za_d102 : za_t102.all (za_dk cX4_keysOf) = true := by decide +kernel
theorem za_d103 : za_t103.all (za_dk cX4_keeps) = true := by decide +kernel
theorem za_d104 : za_t104.all (za_dk cX4_comesBack) = true := by decide +kernel
theorem za_d105 : za_t105.all (za_dk cX4_areKept) = true := by decide +kernel
theorem za_d106 : za_t106.all (za_dk cX4_claim) = true := by decide +kernel
theorem za_d107 : za_t107.all (za_dk cX4_why) = true := by decide +kernel
theorem za_d108 : za_t108.all (za_dk cX4_count) = true := by decide +kernel
theorem za_d109 : za_t109.all (za_dk cL_law) = true := by decide +kernel
theorem za_d110 : za_t110.all (za_dk cX0_takeMark) = true := by decide +kernel
theorem za_dall (y : Nat) : (za_tab y).all (za_dk (za_by y)) = true := by
  match y with
  | 0 => exact za_d0
  | 1 => exact za_d1
  | 2 => exact za_d2
  | 3 => exact za_d3
  | 4 => exact za_d4
  | 5 => exact za_d5
  | 6 => exact za_d6
  | 7 => exact za_d7
  | 8 => exact za_d8
  | 9 => exact za_d9
  | 10 => exact za_d10
  | 11 => exact za_d11
  | 12 => exact za_d12
  | 13 => exact za_d13
  | 14 => exact za_d14
  | 15 => exact za_d15
  | 16 => exact za_d16
  | 17 => exact za_d17
  | 18 => exact za_d18
  | 19 => exact za_d19
  | 20 => exact za_d20
  | 21 => exact za_d21
  | 22 => exact za_d22
  | 23 => exact za_d23
  | 24 => exact za_d24
  | 25 => exact za_d25
  | 26 => exact za_d26
  | 27 => exact za_d27
  | 28 => exact za_d28
  | 29 => exact za_d29
  | 30 => exact za_d30
  | 31 => exact za_d31
  | 32 => exact za_d32
  | 33 => exact za_d33
  | 34 => exact za_d34
  | 35 => exact za_d35
  | 36 => exact za_d36
  | 37 => exact za_d37
  | 38 => exact za_d38
  | 39 => exact za_d39
  | 40 => exact za_d40
  | 41 => exact za_d41
  | 42 => exact za_d42
  | 43 => exact za_d43
  | 44 => exact za_d44
  | 45 => exact za_d45
  | 46 => exact za_d46
  | 47 => exact za_d47
  | 48 => exact za_d48
  | 49 => exact za_d49
  | 50 => exact za_d50
  | 51 => exact za_d51
  | 52 => exact za_d52
  | 53 => exact za_d53
  | 54 => exact za_d54
  | 55 => exact za_d55
  | 56 => exact za_d56
  | 57 => exact za_d57
  | 58 => exact za_d58
  | 59 => exact za_d59
  | 60 => exact za_d60
  | 61 => exact za_d61
  | 62 => exact za_d62
  | 63 => exact za_d63
  | 64 => exact za_d64
  | 65 => exact za_d65
  | 66 => exact za_d66
  | 67 => exact za_d67
  | 68 => exact za_d68
  | 69 => exact za_d69
  | 70 => exact za_d70
  | 71 => exact za_d71
  | 72 => exact za_d72
  | 73 => exact za_d73
  | 74 => exact za_d74
  | 75 => exact za_d75
  | 76 => exact za_d76
  | 77 => exact za_d77
  | 78 => exact za_d78
  | 79 => exact za_d79
  | 80 => exact za_d80
  | 81 => exact za_d81
  | 82 => exact za_d82
  | 83 => exact za_d83
  | 84 => exact za_d84
  | 85 => exact za_d85
  | 86 => exact za_d86
  | 87 => exact za_d87
  | 88 => exact za_d88
  | 89 => exact za_d89
  | 90 => exact za_d90
  | 91 => exact za_d91
  | 92 => exact za_d92
  | 93 => exact za_d93
  | 94 => exact za_d94
  | 95 => exact za_d95
  | 96 => exact za_d96
  | 97 => exact za_d97
  | 98 => exact za_d98
  | 99 => exact za_d99
  | 100 => exact za_d100
  | 101 => exact za_d101
  | 102 => exact za_d102
  | 103 => exact za_d103
  | 104 => exact za_d104
  | 105 => exact za_d105
  | 106 => exact za_d106
  | 107 => exact za_d107
  | 108 => exact za_d108
  | 109 => exact za_d109
  | 110 => exact za_d110
  | _ + 111 => rfl
theorem za_dec {y pc : Nat} {i : Instr} (h : za_find (za_tab y) pc = some i) : ∃ n, decode (za_by y) pc = .ok (i, n) ∧ (n = za_wd i ∨ za_wd i = 0) := by
  have hm := za_find_in h
  have hk := List.all_eq_true.mp (za_dall y) (pc, i) hm
  exact za_dk_ok (q := (pc, i)) hk
def za_ret (y : Nat) : Option FieldType := match za_rt y with
  | 0 => none
  | 1 => some .int
  | _ => some .boolean
/-- the good words of the tables -/
def za_tb : List Cond := lw_tbl.filter goodWord
theorem za_mem (i : Nat) {w : Cond} (h : lw_tbl[i]? = some w) (hg : goodWord w = true) : w ∈ za_tb := List.mem_filter.mpr ⟨List.mem_of_getElem? h, hg⟩
def za_ok (z : Nat) : Prop := Cond.code (za_y z) (za_by z) (za_mx z) (za_ret z) ∈ za_tb ∧ plainName (za_y z).cls = true ∧ (za_y z).cls = za_cn (za_own z) ∧ (za_y z).cls ≠ "java/lang/invoke/MethodHandle" ∧ (za_y z).cls ≠ "java/lang/invoke/VarHandle" ∧ (parseMethodDescriptor (za_y z).desc).map (fun d => d.parameters.length) = some (if za_st z = true then za_na z else za_na z - 1) ∧ (0 < za_na z ∨ za_st z = true) ∧ za_mx z ≤ 12 ∧ Cond.initialized (za_y z).cls ∈ za_tb ∧ (za_st z = true → Cond.static (za_y z) ∈ za_tb) ∧ (za_st z = false → Cond.instanceMethod (za_y z) ∈ za_tb ∧ Cond.selects (za_cn (za_own z)) (za_y z) (za_y z) ∈ za_tb)
set_option maxRecDepth 100000 in
theorem za_ok1 : za_ok 1 := ⟨za_mem 86 rfl rfl, by decide +kernel, rfl, by decide +kernel, by decide +kernel, by decide +kernel, by decide, by decide, za_mem 35 rfl rfl, fun h => Bool.noConfusion h, fun _ => ⟨za_mem 84 rfl rfl, za_mem 85 rfl rfl⟩⟩
set_option maxRecDepth 100000 in
theorem za_ok2 : za_ok 2 := ⟨za_mem 398 rfl rfl, by decide +kernel, rfl, by decide +kernel, by decide +kernel, by decide +kernel, by decide, by decide, za_mem 35 rfl rfl, fun h => Bool.noConfusion h, fun _ => ⟨za_mem 396 rfl rfl, za_mem 397 rfl rfl⟩⟩
set_option maxRecDepth 100000 in
theorem za_ok3 : za_ok 3 := ⟨za_mem 425 rfl rfl, by decide +kernel, rfl, by decide +kernel, by decide +kernel, by decide +kernel, by decide, by decide, za_mem 35 rfl rfl, fun h => Bool.noConfusion h, fun _ => ⟨za_mem 423 rfl rfl, za_mem 424 rfl rfl⟩⟩
set_option maxRecDepth 100000 in
theorem za_ok4 : za_ok 4 := ⟨za_mem 187 rfl rfl, by decide +kernel, rfl, by decide +kernel, by decide +kernel, by decide +kernel, by decide, by decide, za_mem 35 rfl rfl, fun h => Bool.noConfusion h, fun _ => ⟨za_mem 185 rfl rfl, za_mem 186 rfl rfl⟩⟩
set_option maxRecDepth 100000 in
theorem za_ok5 : za_ok 5 := ⟨za_mem 192 rfl rfl, by decide +kernel, rfl, by decide +kernel, by decide +kernel, by decide +kernel, by decide, by decide, za_mem 35 rfl rfl, fun h => Bool.noConfusion h, fun _ => ⟨za_mem 190 rfl rfl, za_mem 191 rfl rfl⟩⟩
set_option maxRecDepth 100000 in
theorem za_ok6 : za_ok 6 := ⟨za_mem 179 rfl rfl, by decide +kernel, rfl, by decide +kernel, by decide +kernel, by decide +kernel, by decide, by decide, za_mem 35 rfl rfl, fun h => Bool.noConfusion h, fun _ => ⟨za_mem 177 rfl rfl, za_mem 178 rfl rfl⟩⟩
set_option maxRecDepth 100000 in
theorem za_ok7 : za_ok 7 := ⟨za_mem 254 rfl rfl, by decide +kernel, rfl, by decide +kernel, by decide +kernel, by decide +kernel, by decide, by decide, za_mem 35 rfl rfl, fun h => Bool.noConfusion h, fun _ => ⟨za_mem 252 rfl rfl, za_mem 253 rfl rfl⟩⟩
set_option maxRecDepth 100000 in
theorem za_ok8 : za_ok 8 := ⟨za_mem 261 rfl rfl, by decide +kernel, rfl, by decide +kernel, by decide +kernel, by decide +kernel, by decide, by decide, za_mem 35 rfl rfl, fun h => Bool.noConfusion h, fun _ => ⟨za_mem 259 rfl rfl, za_mem 260 rfl rfl⟩⟩
set_option maxRecDepth 100000 in
theorem za_ok9 : za_ok 9 := ⟨za_mem 243 rfl rfl, by decide +kernel, rfl, by decide +kernel, by decide +kernel, by decide +kernel, by decide, by decide, za_mem 35 rfl rfl, fun h => Bool.noConfusion h, fun _ => ⟨za_mem 241 rfl rfl, za_mem 242 rfl rfl⟩⟩
set_option maxRecDepth 100000 in
theorem za_ok10 : za_ok 10 := ⟨za_mem 197 rfl rfl, by decide +kernel, rfl, by decide +kernel, by decide +kernel, by decide +kernel, by decide, by decide, za_mem 35 rfl rfl, fun h => Bool.noConfusion h, fun _ => ⟨za_mem 195 rfl rfl, za_mem 196 rfl rfl⟩⟩
set_option maxRecDepth 100000 in
theorem za_ok11 : za_ok 11 := ⟨za_mem 236 rfl rfl, by decide +kernel, rfl, by decide +kernel, by decide +kernel, by decide +kernel, by decide, by decide, za_mem 35 rfl rfl, fun h => Bool.noConfusion h, fun _ => ⟨za_mem 234 rfl rfl, za_mem 235 rfl rfl⟩⟩
set_option maxRecDepth 100000 in
theorem za_ok12 : za_ok 12 := ⟨za_mem 207 rfl rfl, by decide +kernel, rfl, by decide +kernel, by decide +kernel, by decide +kernel, by decide, by decide, za_mem 35 rfl rfl, fun h => Bool.noConfusion h, fun _ => ⟨za_mem 205 rfl rfl, za_mem 206 rfl rfl⟩⟩
set_option maxRecDepth 100000 in
theorem za_ok13 : za_ok 13 := ⟨za_mem 302 rfl rfl, by decide +kernel, rfl, by decide +kernel, by decide +kernel, by decide +kernel, by decide, by decide, za_mem 35 rfl rfl, fun h => Bool.noConfusion h, fun _ => ⟨za_mem 300 rfl rfl, za_mem 301 rfl rfl⟩⟩
set_option maxRecDepth 100000 in
theorem za_ok14 : za_ok 14 := ⟨za_mem 311 rfl rfl, by decide +kernel, rfl, by decide +kernel, by decide +kernel, by decide +kernel, by decide, by decide, za_mem 35 rfl rfl, fun h => Bool.noConfusion h, fun _ => ⟨za_mem 310 rfl rfl, za_mem 3 rfl rfl⟩⟩
set_option maxRecDepth 100000 in
theorem za_ok15 : za_ok 15 := ⟨za_mem 306 rfl rfl, by decide +kernel, rfl, by decide +kernel, by decide +kernel, by decide +kernel, by decide, by decide, za_mem 35 rfl rfl, fun h => Bool.noConfusion h, fun _ => ⟨za_mem 305 rfl rfl, za_mem 2 rfl rfl⟩⟩
set_option maxRecDepth 100000 in
theorem za_ok16 : za_ok 16 := ⟨za_mem 298 rfl rfl, by decide +kernel, rfl, by decide +kernel, by decide +kernel, by decide +kernel, by decide, by decide, za_mem 35 rfl rfl, fun h => Bool.noConfusion h, fun _ => ⟨za_mem 296 rfl rfl, za_mem 297 rfl rfl⟩⟩
set_option maxRecDepth 100000 in
theorem za_ok17 : za_ok 17 := ⟨za_mem 324 rfl rfl, by decide +kernel, rfl, by decide +kernel, by decide +kernel, by decide +kernel, by decide, by decide, za_mem 35 rfl rfl, fun h => Bool.noConfusion h, fun _ => ⟨za_mem 323 rfl rfl, za_mem 6 rfl rfl⟩⟩
set_option maxRecDepth 100000 in
theorem za_ok18 : za_ok 18 := ⟨za_mem 320 rfl rfl, by decide +kernel, rfl, by decide +kernel, by decide +kernel, by decide +kernel, by decide, by decide, za_mem 35 rfl rfl, fun h => Bool.noConfusion h, fun _ => ⟨za_mem 319 rfl rfl, za_mem 5 rfl rfl⟩⟩
set_option maxRecDepth 100000 in
theorem za_ok19 : za_ok 19 := ⟨za_mem 332 rfl rfl, by decide +kernel, rfl, by decide +kernel, by decide +kernel, by decide +kernel, by decide, by decide, za_mem 35 rfl rfl, fun h => Bool.noConfusion h, fun _ => ⟨za_mem 331 rfl rfl, za_mem 8 rfl rfl⟩⟩
set_option maxRecDepth 100000 in
theorem za_ok20 : za_ok 20 := ⟨za_mem 328 rfl rfl, by decide +kernel, rfl, by decide +kernel, by decide +kernel, by decide +kernel, by decide, by decide, za_mem 35 rfl rfl, fun h => Bool.noConfusion h, fun _ => ⟨za_mem 327 rfl rfl, za_mem 7 rfl rfl⟩⟩
set_option maxRecDepth 100000 in
theorem za_ok21 : za_ok 21 := ⟨za_mem 340 rfl rfl, by decide +kernel, rfl, by decide +kernel, by decide +kernel, by decide +kernel, by decide, by decide, za_mem 35 rfl rfl, fun h => Bool.noConfusion h, fun _ => ⟨za_mem 339 rfl rfl, za_mem 10 rfl rfl⟩⟩
set_option maxRecDepth 100000 in
theorem za_ok22 : za_ok 22 := ⟨za_mem 336 rfl rfl, by decide +kernel, rfl, by decide +kernel, by decide +kernel, by decide +kernel, by decide, by decide, za_mem 35 rfl rfl, fun h => Bool.noConfusion h, fun _ => ⟨za_mem 335 rfl rfl, za_mem 9 rfl rfl⟩⟩
set_option maxRecDepth 100000 in
theorem za_ok23 : za_ok 23 := ⟨za_mem 405 rfl rfl, by decide +kernel, rfl, by decide +kernel, by decide +kernel, by decide +kernel, by decide, by decide, za_mem 35 rfl rfl, fun h => Bool.noConfusion h, fun _ => ⟨za_mem 403 rfl rfl, za_mem 404 rfl rfl⟩⟩
set_option maxRecDepth 100000 in
theorem za_ok24 : za_ok 24 := ⟨za_mem 409 rfl rfl, by decide +kernel, rfl, by decide +kernel, by decide +kernel, by decide +kernel, by decide, by decide, za_mem 35 rfl rfl, fun h => Bool.noConfusion h, fun _ => ⟨za_mem 408 rfl rfl, za_mem 15 rfl rfl⟩⟩
set_option maxRecDepth 100000 in
theorem za_ok25 : za_ok 25 := ⟨za_mem 413 rfl rfl, by decide +kernel, rfl, by decide +kernel, by decide +kernel, by decide +kernel, by decide, by decide, za_mem 35 rfl rfl, fun h => Bool.noConfusion h, fun _ => ⟨za_mem 412 rfl rfl, za_mem 16 rfl rfl⟩⟩
set_option maxRecDepth 100000 in
theorem za_ok27 : za_ok 27 := ⟨za_mem 143 rfl rfl, by decide +kernel, rfl, by decide +kernel, by decide +kernel, by decide +kernel, by decide, by decide, za_mem 34 rfl rfl, fun _ => za_mem 142 rfl rfl, fun h => Bool.noConfusion h⟩
set_option maxRecDepth 100000 in
theorem za_ok28 : za_ok 28 := ⟨za_mem 148 rfl rfl, by decide +kernel, rfl, by decide +kernel, by decide +kernel, by decide +kernel, by decide, by decide, za_mem 34 rfl rfl, fun _ => za_mem 147 rfl rfl, fun h => Bool.noConfusion h⟩
set_option maxRecDepth 100000 in
theorem za_ok29 : za_ok 29 := ⟨za_mem 158 rfl rfl, by decide +kernel, rfl, by decide +kernel, by decide +kernel, by decide +kernel, by decide, by decide, za_mem 34 rfl rfl, fun h => Bool.noConfusion h, fun _ => ⟨za_mem 156 rfl rfl, za_mem 157 rfl rfl⟩⟩
set_option maxRecDepth 100000 in
theorem za_ok30 : za_ok 30 := ⟨za_mem 166 rfl rfl, by decide +kernel, rfl, by decide +kernel, by decide +kernel, by decide +kernel, by decide, by decide, za_mem 34 rfl rfl, fun h => Bool.noConfusion h, fun _ => ⟨za_mem 164 rfl rfl, za_mem 165 rfl rfl⟩⟩
set_option maxRecDepth 100000 in
theorem za_ok31 : za_ok 31 := ⟨za_mem 429 rfl rfl, by decide +kernel, rfl, by decide +kernel, by decide +kernel, by decide +kernel, by decide, by decide, za_mem 34 rfl rfl, fun h => Bool.noConfusion h, fun _ => ⟨za_mem 427 rfl rfl, za_mem 428 rfl rfl⟩⟩
set_option maxRecDepth 100000 in
theorem za_ok32 : za_ok 32 := ⟨za_mem 272 rfl rfl, by decide +kernel, rfl, by decide +kernel, by decide +kernel, by decide +kernel, by decide, by decide, za_mem 34 rfl rfl, fun h => Bool.noConfusion h, fun _ => ⟨za_mem 270 rfl rfl, za_mem 271 rfl rfl⟩⟩
set_option maxRecDepth 100000 in
theorem za_ok33 : za_ok 33 := ⟨za_mem 276 rfl rfl, by decide +kernel, rfl, by decide +kernel, by decide +kernel, by decide +kernel, by decide, by decide, za_mem 34 rfl rfl, fun h => Bool.noConfusion h, fun _ => ⟨za_mem 274 rfl rfl, za_mem 275 rfl rfl⟩⟩
set_option maxRecDepth 100000 in
theorem za_ok34 : za_ok 34 := ⟨za_mem 216 rfl rfl, by decide +kernel, rfl, by decide +kernel, by decide +kernel, by decide +kernel, by decide, by decide, za_mem 34 rfl rfl, fun h => Bool.noConfusion h, fun _ => ⟨za_mem 214 rfl rfl, za_mem 215 rfl rfl⟩⟩
set_option maxRecDepth 100000 in
theorem za_ok35 : za_ok 35 := ⟨za_mem 220 rfl rfl, by decide +kernel, rfl, by decide +kernel, by decide +kernel, by decide +kernel, by decide, by decide, za_mem 34 rfl rfl, fun h => Bool.noConfusion h, fun _ => ⟨za_mem 219 rfl rfl, za_mem 0 rfl rfl⟩⟩
set_option maxRecDepth 100000 in
theorem za_ok36 : za_ok 36 := ⟨za_mem 227 rfl rfl, by decide +kernel, rfl, by decide +kernel, by decide +kernel, by decide +kernel, by decide, by decide, za_mem 34 rfl rfl, fun _ => za_mem 226 rfl rfl, fun h => Bool.noConfusion h⟩
set_option maxRecDepth 100000 in
theorem za_ok37 : za_ok 37 := ⟨za_mem 264 rfl rfl, by decide +kernel, rfl, by decide +kernel, by decide +kernel, by decide +kernel, by decide, by decide, za_mem 34 rfl rfl, fun _ => za_mem 263 rfl rfl, fun h => Bool.noConfusion h⟩
set_option maxRecDepth 100000 in
theorem za_ok38 : za_ok 38 := ⟨za_mem 224 rfl rfl, by decide +kernel, rfl, by decide +kernel, by decide +kernel, by decide +kernel, by decide, by decide, za_mem 34 rfl rfl, fun h => Bool.noConfusion h, fun _ => ⟨za_mem 223 rfl rfl, za_mem 1 rfl rfl⟩⟩
set_option maxRecDepth 100000 in
theorem za_ok39 : za_ok 39 := ⟨za_mem 230 rfl rfl, by decide +kernel, rfl, by decide +kernel, by decide +kernel, by decide +kernel, by decide, by decide, za_mem 34 rfl rfl, fun _ => za_mem 229 rfl rfl, fun h => Bool.noConfusion h⟩
set_option maxRecDepth 100000 in
theorem za_ok40 : za_ok 40 := ⟨za_mem 239 rfl rfl, by decide +kernel, rfl, by decide +kernel, by decide +kernel, by decide +kernel, by decide, by decide, za_mem 34 rfl rfl, fun _ => za_mem 238 rfl rfl, fun h => Bool.noConfusion h⟩
set_option maxRecDepth 100000 in
theorem za_ok41 : za_ok 41 := ⟨za_mem 246 rfl rfl, by decide +kernel, rfl, by decide +kernel, by decide +kernel, by decide +kernel, by decide, by decide, za_mem 34 rfl rfl, fun _ => za_mem 245 rfl rfl, fun h => Bool.noConfusion h⟩
set_option maxRecDepth 100000 in
theorem za_ok42 : za_ok 42 := ⟨za_mem 250 rfl rfl, by decide +kernel, rfl, by decide +kernel, by decide +kernel, by decide +kernel, by decide, by decide, za_mem 34 rfl rfl, fun _ => za_mem 249 rfl rfl, fun h => Bool.noConfusion h⟩
set_option maxRecDepth 100000 in
theorem za_ok43 : za_ok 43 := ⟨za_mem 257 rfl rfl, by decide +kernel, rfl, by decide +kernel, by decide +kernel, by decide +kernel, by decide, by decide, za_mem 34 rfl rfl, fun _ => za_mem 256 rfl rfl, fun h => Bool.noConfusion h⟩
set_option maxRecDepth 100000 in
theorem za_ok45 : za_ok 45 := ⟨za_mem 356 rfl rfl, by decide +kernel, rfl, by decide +kernel, by decide +kernel, by decide +kernel, by decide, by decide, za_mem 36 rfl rfl, fun _ => za_mem 355 rfl rfl, fun h => Bool.noConfusion h⟩
set_option maxRecDepth 100000 in
theorem za_ok46 : za_ok 46 := ⟨za_mem 359 rfl rfl, by decide +kernel, rfl, by decide +kernel, by decide +kernel, by decide +kernel, by decide, by decide, za_mem 36 rfl rfl, fun _ => za_mem 358 rfl rfl, fun h => Bool.noConfusion h⟩
set_option maxRecDepth 100000 in
theorem za_ok47 : za_ok 47 := ⟨za_mem 363 rfl rfl, by decide +kernel, rfl, by decide +kernel, by decide +kernel, by decide +kernel, by decide, by decide, za_mem 36 rfl rfl, fun h => Bool.noConfusion h, fun _ => ⟨za_mem 361 rfl rfl, za_mem 362 rfl rfl⟩⟩
set_option maxRecDepth 100000 in
theorem za_ok48 : za_ok 48 := ⟨za_mem 384 rfl rfl, by decide +kernel, rfl, by decide +kernel, by decide +kernel, by decide +kernel, by decide, by decide, za_mem 36 rfl rfl, fun _ => za_mem 383 rfl rfl, fun h => Bool.noConfusion h⟩
set_option maxRecDepth 100000 in
theorem za_ok49 : za_ok 49 := ⟨za_mem 388 rfl rfl, by decide +kernel, rfl, by decide +kernel, by decide +kernel, by decide +kernel, by decide, by decide, za_mem 36 rfl rfl, fun _ => za_mem 387 rfl rfl, fun h => Bool.noConfusion h⟩
set_option maxRecDepth 100000 in
theorem za_ok50 : za_ok 50 := ⟨za_mem 368 rfl rfl, by decide +kernel, rfl, by decide +kernel, by decide +kernel, by decide +kernel, by decide, by decide, za_mem 36 rfl rfl, fun h => Bool.noConfusion h, fun _ => ⟨za_mem 367 rfl rfl, za_mem 11 rfl rfl⟩⟩
set_option maxRecDepth 100000 in
theorem za_ok51 : za_ok 51 := ⟨za_mem 373 rfl rfl, by decide +kernel, rfl, by decide +kernel, by decide +kernel, by decide +kernel, by decide, by decide, za_mem 36 rfl rfl, fun _ => za_mem 372 rfl rfl, fun h => Bool.noConfusion h⟩
set_option maxRecDepth 100000 in
theorem za_ok52 : za_ok 52 := ⟨za_mem 377 rfl rfl, by decide +kernel, rfl, by decide +kernel, by decide +kernel, by decide +kernel, by decide, by decide, za_mem 36 rfl rfl, fun h => Bool.noConfusion h, fun _ => ⟨za_mem 376 rfl rfl, za_mem 12 rfl rfl⟩⟩
set_option maxRecDepth 100000 in
theorem za_ok53 : za_ok 53 := ⟨za_mem 381 rfl rfl, by decide +kernel, rfl, by decide +kernel, by decide +kernel, by decide +kernel, by decide, by decide, za_mem 36 rfl rfl, fun h => Bool.noConfusion h, fun _ => ⟨za_mem 380 rfl rfl, za_mem 13 rfl rfl⟩⟩
set_option maxRecDepth 100000 in
theorem za_ok55 : za_ok 55 := ⟨za_mem 140 rfl rfl, by decide +kernel, rfl, by decide +kernel, by decide +kernel, by decide +kernel, by decide, by decide, za_mem 33 rfl rfl, fun h => Bool.noConfusion h, fun _ => ⟨za_mem 138 rfl rfl, za_mem 139 rfl rfl⟩⟩
set_option maxRecDepth 100000 in
theorem za_ok56 : za_ok 56 := ⟨za_mem 162 rfl rfl, by decide +kernel, rfl, by decide +kernel, by decide +kernel, by decide +kernel, by decide, by decide, za_mem 33 rfl rfl, fun h => Bool.noConfusion h, fun _ => ⟨za_mem 160 rfl rfl, za_mem 161 rfl rfl⟩⟩
set_option maxRecDepth 100000 in
theorem za_ok57 : za_ok 57 := ⟨za_mem 170 rfl rfl, by decide +kernel, rfl, by decide +kernel, by decide +kernel, by decide +kernel, by decide, by decide, za_mem 33 rfl rfl, fun h => Bool.noConfusion h, fun _ => ⟨za_mem 168 rfl rfl, za_mem 169 rfl rfl⟩⟩
set_option maxRecDepth 100000 in
theorem za_ok58 : za_ok 58 := ⟨za_mem 175 rfl rfl, by decide +kernel, rfl, by decide +kernel, by decide +kernel, by decide +kernel, by decide, by decide, za_mem 33 rfl rfl, fun h => Bool.noConfusion h, fun _ => ⟨za_mem 173 rfl rfl, za_mem 174 rfl rfl⟩⟩
set_option maxRecDepth 100000 in
theorem za_ok59 : za_ok 59 := ⟨za_mem 183 rfl rfl, by decide +kernel, rfl, by decide +kernel, by decide +kernel, by decide +kernel, by decide, by decide, za_mem 33 rfl rfl, fun h => Bool.noConfusion h, fun _ => ⟨za_mem 181 rfl rfl, za_mem 182 rfl rfl⟩⟩
set_option maxRecDepth 100000 in
theorem za_ok60 : za_ok 60 := ⟨za_mem 202 rfl rfl, by decide +kernel, rfl, by decide +kernel, by decide +kernel, by decide +kernel, by decide, by decide, za_mem 33 rfl rfl, fun h => Bool.noConfusion h, fun _ => ⟨za_mem 200 rfl rfl, za_mem 201 rfl rfl⟩⟩
set_option maxRecDepth 100000 in
theorem za_ok61 : za_ok 61 := ⟨za_mem 212 rfl rfl, by decide +kernel, rfl, by decide +kernel, by decide +kernel, by decide +kernel, by decide, by decide, za_mem 33 rfl rfl, fun h => Bool.noConfusion h, fun _ => ⟨za_mem 210 rfl rfl, za_mem 211 rfl rfl⟩⟩
set_option maxRecDepth 100000 in
theorem za_ok62 : za_ok 62 := ⟨za_mem 268 rfl rfl, by decide +kernel, rfl, by decide +kernel, by decide +kernel, by decide +kernel, by decide, by decide, za_mem 33 rfl rfl, fun h => Bool.noConfusion h, fun _ => ⟨za_mem 266 rfl rfl, za_mem 267 rfl rfl⟩⟩
set_option maxRecDepth 100000 in
theorem za_ok63 : za_ok 63 := ⟨za_mem 280 rfl rfl, by decide +kernel, rfl, by decide +kernel, by decide +kernel, by decide +kernel, by decide, by decide, za_mem 33 rfl rfl, fun h => Bool.noConfusion h, fun _ => ⟨za_mem 278 rfl rfl, za_mem 279 rfl rfl⟩⟩
set_option maxRecDepth 100000 in
theorem za_ok64 : za_ok 64 := ⟨za_mem 285 rfl rfl, by decide +kernel, rfl, by decide +kernel, by decide +kernel, by decide +kernel, by decide, by decide, za_mem 33 rfl rfl, fun h => Bool.noConfusion h, fun _ => ⟨za_mem 283 rfl rfl, za_mem 284 rfl rfl⟩⟩
set_option maxRecDepth 100000 in
theorem za_ok65 : za_ok 65 := ⟨za_mem 291 rfl rfl, by decide +kernel, rfl, by decide +kernel, by decide +kernel, by decide +kernel, by decide, by decide, za_mem 33 rfl rfl, fun h => Bool.noConfusion h, fun _ => ⟨za_mem 289 rfl rfl, za_mem 290 rfl rfl⟩⟩
set_option maxRecDepth 100000 in
theorem za_ok66 : za_ok 66 := ⟨za_mem 345 rfl rfl, by decide +kernel, rfl, by decide +kernel, by decide +kernel, by decide +kernel, by decide, by decide, za_mem 33 rfl rfl, fun h => Bool.noConfusion h, fun _ => ⟨za_mem 343 rfl rfl, za_mem 344 rfl rfl⟩⟩
set_option maxRecDepth 100000 in
theorem za_ok67 : za_ok 67 := ⟨za_mem 350 rfl rfl, by decide +kernel, rfl, by decide +kernel, by decide +kernel, by decide +kernel, by decide, by decide, za_mem 33 rfl rfl, fun h => Bool.noConfusion h, fun _ => ⟨za_mem 348 rfl rfl, za_mem 349 rfl rfl⟩⟩
set_option maxRecDepth 100000 in
theorem za_ok68 : za_ok 68 := ⟨za_mem 417 rfl rfl, by decide +kernel, rfl, by decide +kernel, by decide +kernel, by decide +kernel, by decide, by decide, za_mem 33 rfl rfl, fun h => Bool.noConfusion h, fun _ => ⟨za_mem 415 rfl rfl, za_mem 416 rfl rfl⟩⟩
set_option maxRecDepth 100000 in
theorem za_ok69 : za_ok 69 := ⟨za_mem 421 rfl rfl, by decide +kernel, rfl, by decide +kernel, by decide +kernel, by decide +kernel, by decide, by decide, za_mem 33 rfl rfl, fun h => Bool.noConfusion h, fun _ => ⟨za_mem 419 rfl rfl, za_mem 420 rfl rfl⟩⟩
set_option maxRecDepth 100000 in
theorem za_ok70 : za_ok 70 := ⟨za_mem 394 rfl rfl, by decide +kernel, rfl, by decide +kernel, by decide +kernel, by decide +kernel, by decide, by decide, za_mem 33 rfl rfl, fun h => Bool.noConfusion h, fun _ => ⟨za_mem 393 rfl rfl, za_mem 14 rfl rfl⟩⟩
set_option maxRecDepth 100000 in
theorem za_ok71 : za_ok 71 := ⟨za_mem 151 rfl rfl, by decide +kernel, rfl, by decide +kernel, by decide +kernel, by decide +kernel, by decide, by decide, za_mem 33 rfl rfl, fun _ => za_mem 150 rfl rfl, fun h => Bool.noConfusion h⟩
set_option maxRecDepth 100000 in
theorem za_ok72 : za_ok 72 := ⟨za_mem 154 rfl rfl, by decide +kernel, rfl, by decide +kernel, by decide +kernel, by decide +kernel, by decide, by decide, za_mem 33 rfl rfl, fun _ => za_mem 153 rfl rfl, fun h => Bool.noConfusion h⟩
set_option maxRecDepth 100000 in
theorem za_ok73 : za_ok 73 := ⟨za_mem 294 rfl rfl, by decide +kernel, rfl, by decide +kernel, by decide +kernel, by decide +kernel, by decide, by decide, za_mem 33 rfl rfl, fun _ => za_mem 293 rfl rfl, fun h => Bool.noConfusion h⟩
set_option maxRecDepth 100000 in
theorem za_ok74 : za_ok 74 := ⟨za_mem 353 rfl rfl, by decide +kernel, rfl, by decide +kernel, by decide +kernel, by decide +kernel, by decide, by decide, za_mem 33 rfl rfl, fun _ => za_mem 352 rfl rfl, fun h => Bool.noConfusion h⟩
set_option maxRecDepth 100000 in
theorem za_ok76 : za_ok 76 := ⟨za_mem 519 rfl rfl, by decide +kernel, rfl, by decide +kernel, by decide +kernel, by decide +kernel, by decide, by decide, za_mem 37 rfl rfl, fun _ => za_mem 518 rfl rfl, fun h => Bool.noConfusion h⟩
set_option maxRecDepth 100000 in
theorem za_ok77 : za_ok 77 := ⟨za_mem 539 rfl rfl, by decide +kernel, rfl, by decide +kernel, by decide +kernel, by decide +kernel, by decide, by decide, za_mem 37 rfl rfl, fun h => Bool.noConfusion h, fun _ => ⟨za_mem 538 rfl rfl, za_mem 17 rfl rfl⟩⟩
set_option maxRecDepth 100000 in
theorem za_ok78 : za_ok 78 := ⟨za_mem 516 rfl rfl, by decide +kernel, rfl, by decide +kernel, by decide +kernel, by decide +kernel, by decide, by decide, za_mem 37 rfl rfl, fun _ => za_mem 515 rfl rfl, fun h => Bool.noConfusion h⟩
set_option maxRecDepth 100000 in
theorem za_ok79 : za_ok 79 := ⟨za_mem 513 rfl rfl, by decide +kernel, rfl, by decide +kernel, by decide +kernel, by decide +kernel, by decide, by decide, za_mem 37 rfl rfl, fun _ => za_mem 512 rfl rfl, fun h => Bool.noConfusion h⟩
set_option maxRecDepth 100000 in
theorem za_ok80 : za_ok 80 := ⟨za_mem 510 rfl rfl, by decide +kernel, rfl, by decide +kernel, by decide +kernel, by decide +kernel, by decide, by decide, za_mem 37 rfl rfl, fun h => Bool.noConfusion h, fun _ => ⟨za_mem 508 rfl rfl, za_mem 509 rfl rfl⟩⟩
set_option maxRecDepth 100000 in
theorem za_ok81 : za_ok 81 := ⟨za_mem 523 rfl rfl, by decide +kernel, rfl, by decide +kernel, by decide +kernel, by decide +kernel, by decide, by decide, za_mem 37 rfl rfl, fun h => Bool.noConfusion h, fun _ => ⟨za_mem 521 rfl rfl, za_mem 522 rfl rfl⟩⟩
set_option maxRecDepth 100000 in
theorem za_ok82 : za_ok 82 := ⟨za_mem 527 rfl rfl, by decide +kernel, rfl, by decide +kernel, by decide +kernel, by decide +kernel, by decide, by decide, za_mem 37 rfl rfl, fun h => Bool.noConfusion h, fun _ => ⟨za_mem 525 rfl rfl, za_mem 526 rfl rfl⟩⟩
set_option maxRecDepth 100000 in
theorem za_ok83 : za_ok 83 := ⟨za_mem 531 rfl rfl, by decide +kernel, rfl, by decide +kernel, by decide +kernel, by decide +kernel, by decide, by decide, za_mem 37 rfl rfl, fun h => Bool.noConfusion h, fun _ => ⟨za_mem 529 rfl rfl, za_mem 530 rfl rfl⟩⟩
set_option maxRecDepth 100000 in
theorem za_ok84 : za_ok 84 := ⟨za_mem 535 rfl rfl, by decide +kernel, rfl, by decide +kernel, by decide +kernel, by decide +kernel, by decide, by decide, za_mem 37 rfl rfl, fun h => Bool.noConfusion h, fun _ => ⟨za_mem 533 rfl rfl, za_mem 534 rfl rfl⟩⟩
set_option maxRecDepth 100000 in
theorem za_ok85 : za_ok 85 := ⟨za_mem 543 rfl rfl, by decide +kernel, rfl, by decide +kernel, by decide +kernel, by decide +kernel, by decide, by decide, za_mem 37 rfl rfl, fun h => Bool.noConfusion h, fun _ => ⟨za_mem 541 rfl rfl, za_mem 542 rfl rfl⟩⟩
set_option maxRecDepth 100000 in
theorem za_ok86 : za_ok 86 := ⟨za_mem 547 rfl rfl, by decide +kernel, rfl, by decide +kernel, by decide +kernel, by decide +kernel, by decide, by decide, za_mem 37 rfl rfl, fun h => Bool.noConfusion h, fun _ => ⟨za_mem 545 rfl rfl, za_mem 546 rfl rfl⟩⟩
set_option maxRecDepth 100000 in
theorem za_ok87 : za_ok 87 := ⟨za_mem 552 rfl rfl, by decide +kernel, rfl, by decide +kernel, by decide +kernel, by decide +kernel, by decide, by decide, za_mem 37 rfl rfl, fun h => Bool.noConfusion h, fun _ => ⟨za_mem 550 rfl rfl, za_mem 551 rfl rfl⟩⟩
set_option maxRecDepth 100000 in
theorem za_ok88 : za_ok 88 := ⟨za_mem 556 rfl rfl, by decide +kernel, rfl, by decide +kernel, by decide +kernel, by decide +kernel, by decide, by decide, za_mem 37 rfl rfl, fun h => Bool.noConfusion h, fun _ => ⟨za_mem 554 rfl rfl, za_mem 555 rfl rfl⟩⟩
set_option maxRecDepth 100000 in
theorem za_ok89 : za_ok 89 := ⟨za_mem 560 rfl rfl, by decide +kernel, rfl, by decide +kernel, by decide +kernel, by decide +kernel, by decide, by decide, za_mem 37 rfl rfl, fun h => Bool.noConfusion h, fun _ => ⟨za_mem 558 rfl rfl, za_mem 559 rfl rfl⟩⟩
set_option maxRecDepth 100000 in
theorem za_ok90 : za_ok 90 := ⟨za_mem 576 rfl rfl, by decide +kernel, rfl, by decide +kernel, by decide +kernel, by decide +kernel, by decide, by decide, za_mem 37 rfl rfl, fun h => Bool.noConfusion h, fun _ => ⟨za_mem 575 rfl rfl, za_mem 20 rfl rfl⟩⟩
set_option maxRecDepth 100000 in
theorem za_ok91 : za_ok 91 := ⟨za_mem 572 rfl rfl, by decide +kernel, rfl, by decide +kernel, by decide +kernel, by decide +kernel, by decide, by decide, za_mem 37 rfl rfl, fun h => Bool.noConfusion h, fun _ => ⟨za_mem 571 rfl rfl, za_mem 19 rfl rfl⟩⟩
set_option maxRecDepth 100000 in
theorem za_ok92 : za_ok 92 := ⟨za_mem 580 rfl rfl, by decide +kernel, rfl, by decide +kernel, by decide +kernel, by decide +kernel, by decide, by decide, za_mem 37 rfl rfl, fun h => Bool.noConfusion h, fun _ => ⟨za_mem 579 rfl rfl, za_mem 21 rfl rfl⟩⟩
set_option maxRecDepth 100000 in
theorem za_ok93 : za_ok 93 := ⟨za_mem 584 rfl rfl, by decide +kernel, rfl, by decide +kernel, by decide +kernel, by decide +kernel, by decide, by decide, za_mem 37 rfl rfl, fun h => Bool.noConfusion h, fun _ => ⟨za_mem 583 rfl rfl, za_mem 22 rfl rfl⟩⟩
set_option maxRecDepth 100000 in
theorem za_ok94 : za_ok 94 := ⟨za_mem 588 rfl rfl, by decide +kernel, rfl, by decide +kernel, by decide +kernel, by decide +kernel, by decide, by decide, za_mem 37 rfl rfl, fun h => Bool.noConfusion h, fun _ => ⟨za_mem 587 rfl rfl, za_mem 23 rfl rfl⟩⟩
set_option maxRecDepth 100000 in
theorem za_ok95 : za_ok 95 := ⟨za_mem 568 rfl rfl, by decide +kernel, rfl, by decide +kernel, by decide +kernel, by decide +kernel, by decide, by decide, za_mem 37 rfl rfl, fun h => Bool.noConfusion h, fun _ => ⟨za_mem 567 rfl rfl, za_mem 18 rfl rfl⟩⟩
set_option maxRecDepth 100000 in
theorem za_ok96 : za_ok 96 := ⟨za_mem 564 rfl rfl, by decide +kernel, rfl, by decide +kernel, by decide +kernel, by decide +kernel, by decide, by decide, za_mem 37 rfl rfl, fun h => Bool.noConfusion h, fun _ => ⟨za_mem 562 rfl rfl, za_mem 563 rfl rfl⟩⟩
set_option maxRecDepth 100000 in
theorem za_ok97 : za_ok 97 := ⟨za_mem 592 rfl rfl, by decide +kernel, rfl, by decide +kernel, by decide +kernel, by decide +kernel, by decide, by decide, za_mem 37 rfl rfl, fun h => Bool.noConfusion h, fun _ => ⟨za_mem 590 rfl rfl, za_mem 591 rfl rfl⟩⟩
set_option maxRecDepth 100000 in
theorem za_ok98 : za_ok 98 := ⟨za_mem 608 rfl rfl, by decide +kernel, rfl, by decide +kernel, by decide +kernel, by decide +kernel, by decide, by decide, za_mem 37 rfl rfl, fun h => Bool.noConfusion h, fun _ => ⟨za_mem 607 rfl rfl, za_mem 26 rfl rfl⟩⟩
set_option maxRecDepth 100000 in
theorem za_ok99 : za_ok 99 := ⟨za_mem 612 rfl rfl, by decide +kernel, rfl, by decide +kernel, by decide +kernel, by decide +kernel, by decide, by decide, za_mem 37 rfl rfl, fun h => Bool.noConfusion h, fun _ => ⟨za_mem 611 rfl rfl, za_mem 27 rfl rfl⟩⟩
set_option maxRecDepth 100000 in
theorem za_ok100 : za_ok 100 := ⟨za_mem 604 rfl rfl, by decide +kernel, rfl, by decide +kernel, by decide +kernel, by decide +kernel, by decide, by decide, za_mem 37 rfl rfl, fun h => Bool.noConfusion h, fun _ => ⟨za_mem 603 rfl rfl, za_mem 25 rfl rfl⟩⟩
set_option maxRecDepth 100000 in
theorem za_ok101 : za_ok 101 := ⟨za_mem 616 rfl rfl, by decide +kernel, rfl, by decide +kernel, by decide +kernel, by decide +kernel, by decide, by decide, za_mem 37 rfl rfl, fun h => Bool.noConfusion h, fun _ => ⟨za_mem 615 rfl rfl, za_mem 28 rfl rfl⟩⟩
set_option maxRecDepth 100000 in
theorem za_ok102 : za_ok 102 := ⟨za_mem 620 rfl rfl, by decide +kernel, rfl, by decide +kernel, by decide +kernel, by decide +kernel, by decide, by decide, za_mem 37 rfl rfl, fun h => Bool.noConfusion h, fun _ => ⟨za_mem 619 rfl rfl, za_mem 29 rfl rfl⟩⟩
set_option maxRecDepth 100000 in
theorem za_ok103 : za_ok 103 := ⟨za_mem 600 rfl rfl, by decide +kernel, rfl, by decide +kernel, by decide +kernel, by decide +kernel, by decide, by decide, za_mem 37 rfl rfl, fun h => Bool.noConfusion h, fun _ => ⟨za_mem 599 rfl rfl, za_mem 24 rfl rfl⟩⟩
set_option maxRecDepth 100000 in
theorem za_ok104 : za_ok 104 := ⟨za_mem 630 rfl rfl, by decide +kernel, rfl, by decide +kernel, by decide +kernel, by decide +kernel, by decide, by decide, za_mem 37 rfl rfl, fun h => Bool.noConfusion h, fun _ => ⟨za_mem 629 rfl rfl, za_mem 31 rfl rfl⟩⟩
set_option maxRecDepth 100000 in
theorem za_ok105 : za_ok 105 := ⟨za_mem 626 rfl rfl, by decide +kernel, rfl, by decide +kernel, by decide +kernel, by decide +kernel, by decide, by decide, za_mem 37 rfl rfl, fun h => Bool.noConfusion h, fun _ => ⟨za_mem 625 rfl rfl, za_mem 30 rfl rfl⟩⟩
set_option maxRecDepth 100000 in
theorem za_ok106 : za_ok 106 := ⟨za_mem 596 rfl rfl, by decide +kernel, rfl, by decide +kernel, by decide +kernel, by decide +kernel, by decide, by decide, za_mem 37 rfl rfl, fun h => Bool.noConfusion h, fun _ => ⟨za_mem 594 rfl rfl, za_mem 595 rfl rfl⟩⟩
set_option maxRecDepth 100000 in
theorem za_ok107 : za_ok 107 := ⟨za_mem 634 rfl rfl, by decide +kernel, rfl, by decide +kernel, by decide +kernel, by decide +kernel, by decide, by decide, za_mem 37 rfl rfl, fun h => Bool.noConfusion h, fun _ => ⟨za_mem 632 rfl rfl, za_mem 633 rfl rfl⟩⟩
set_option maxRecDepth 100000 in
theorem za_ok108 : za_ok 108 := ⟨za_mem 638 rfl rfl, by decide +kernel, rfl, by decide +kernel, by decide +kernel, by decide +kernel, by decide, by decide, za_mem 37 rfl rfl, fun h => Bool.noConfusion h, fun _ => ⟨za_mem 636 rfl rfl, za_mem 637 rfl rfl⟩⟩
set_option maxRecDepth 100000 in
theorem za_ok110 : za_ok 110 := ⟨za_mem 315 rfl rfl, by decide +kernel, rfl, by decide +kernel, by decide +kernel, by decide +kernel, by decide, by decide, za_mem 35 rfl rfl, fun h => Bool.noConfusion h, fun _ => ⟨za_mem 314 rfl rfl, za_mem 4 rfl rfl⟩⟩
def za_callable : List Nat := [1, 2, 3, 4, 5, 6, 7, 8, 9, 10, 11, 12, 13, 14, 15, 16, 17, 18, 19, 20, 21, 22, 23, 24, 25, 27, 28, 29, 30, 31, 32, 33, 34, 35, 36, 37, 38, 39, 40, 41, 42, 43, 45, 46, 47, 48, 49, 50, 51, 52, 53, 55, 56, 57, 58, 59, 60, 61, 62, 63, 64, 65, 66, 67, 68, 69, 70, 71, 72, 73, 74, 76, 77, 78, 79, 80, 81, 82, 83, 84, 85, 86, 87, 88, 89, 90, 91, 92, 93, 94, 95, 96, 97, 98, 99, 100, 101, 102, 103, 104, 105, 106, 107, 108, 110]
theorem za_ok_all : ∀ z ∈ za_callable, za_ok z := List.forall_mem_cons.mpr ⟨za_ok1, List.forall_mem_cons.mpr ⟨za_ok2, List.forall_mem_cons.mpr ⟨za_ok3, List.forall_mem_cons.mpr ⟨za_ok4, List.forall_mem_cons.mpr ⟨za_ok5, List.forall_mem_cons.mpr ⟨za_ok6, List.forall_mem_cons.mpr ⟨za_ok7, List.forall_mem_cons.mpr ⟨za_ok8, List.forall_mem_cons.mpr ⟨za_ok9, List.forall_mem_cons.mpr ⟨za_ok10, List.forall_mem_cons.mpr ⟨za_ok11, List.forall_mem_cons.mpr ⟨za_ok12, List.forall_mem_cons.mpr ⟨za_ok13, List.forall_mem_cons.mpr ⟨za_ok14, List.forall_mem_cons.mpr ⟨za_ok15, List.forall_mem_cons.mpr ⟨za_ok16, List.forall_mem_cons.mpr ⟨za_ok17, List.forall_mem_cons.mpr ⟨za_ok18, List.forall_mem_cons.mpr ⟨za_ok19, List.forall_mem_cons.mpr ⟨za_ok20, List.forall_mem_cons.mpr ⟨za_ok21, List.forall_mem_cons.mpr ⟨za_ok22, List.forall_mem_cons.mpr ⟨za_ok23, List.forall_mem_cons.mpr ⟨za_ok24, List.forall_mem_cons.mpr ⟨za_ok25, List.forall_mem_cons.mpr ⟨za_ok27, List.forall_mem_cons.mpr ⟨za_ok28, List.forall_mem_cons.mpr ⟨za_ok29, List.forall_mem_cons.mpr ⟨za_ok30, List.forall_mem_cons.mpr ⟨za_ok31, List.forall_mem_cons.mpr ⟨za_ok32, List.forall_mem_cons.mpr ⟨za_ok33, List.forall_mem_cons.mpr ⟨za_ok34, List.forall_mem_cons.mpr ⟨za_ok35, List.forall_mem_cons.mpr ⟨za_ok36, List.forall_mem_cons.mpr ⟨za_ok37, List.forall_mem_cons.mpr ⟨za_ok38, List.forall_mem_cons.mpr ⟨za_ok39, List.forall_mem_cons.mpr ⟨za_ok40, List.forall_mem_cons.mpr ⟨za_ok41, List.forall_mem_cons.mpr ⟨za_ok42, List.forall_mem_cons.mpr ⟨za_ok43, List.forall_mem_cons.mpr ⟨za_ok45, List.forall_mem_cons.mpr ⟨za_ok46, List.forall_mem_cons.mpr ⟨za_ok47, List.forall_mem_cons.mpr ⟨za_ok48, List.forall_mem_cons.mpr ⟨za_ok49, List.forall_mem_cons.mpr ⟨za_ok50, List.forall_mem_cons.mpr ⟨za_ok51, List.forall_mem_cons.mpr ⟨za_ok52, List.forall_mem_cons.mpr ⟨za_ok53, List.forall_mem_cons.mpr ⟨za_ok55, List.forall_mem_cons.mpr ⟨za_ok56, List.forall_mem_cons.mpr ⟨za_ok57, List.forall_mem_cons.mpr ⟨za_ok58, List.forall_mem_cons.mpr ⟨za_ok59, List.forall_mem_cons.mpr ⟨za_ok60, List.forall_mem_cons.mpr ⟨za_ok61, List.forall_mem_cons.mpr ⟨za_ok62, List.forall_mem_cons.mpr ⟨za_ok63, List.forall_mem_cons.mpr ⟨za_ok64, List.forall_mem_cons.mpr ⟨za_ok65, List.forall_mem_cons.mpr ⟨za_ok66, List.forall_mem_cons.mpr ⟨za_ok67, List.forall_mem_cons.mpr ⟨za_ok68, List.forall_mem_cons.mpr ⟨za_ok69, List.forall_mem_cons.mpr ⟨za_ok70, List.forall_mem_cons.mpr ⟨za_ok71, List.forall_mem_cons.mpr ⟨za_ok72, List.forall_mem_cons.mpr ⟨za_ok73, List.forall_mem_cons.mpr ⟨za_ok74, List.forall_mem_cons.mpr ⟨za_ok76, List.forall_mem_cons.mpr ⟨za_ok77, List.forall_mem_cons.mpr ⟨za_ok78, List.forall_mem_cons.mpr ⟨za_ok79, List.forall_mem_cons.mpr ⟨za_ok80, List.forall_mem_cons.mpr ⟨za_ok81, List.forall_mem_cons.mpr ⟨za_ok82, List.forall_mem_cons.mpr ⟨za_ok83, List.forall_mem_cons.mpr ⟨za_ok84, List.forall_mem_cons.mpr ⟨za_ok85, List.forall_mem_cons.mpr ⟨za_ok86, List.forall_mem_cons.mpr ⟨za_ok87, List.forall_mem_cons.mpr ⟨za_ok88, List.forall_mem_cons.mpr ⟨za_ok89, List.forall_mem_cons.mpr ⟨za_ok90, List.forall_mem_cons.mpr ⟨za_ok91, List.forall_mem_cons.mpr ⟨za_ok92, List.forall_mem_cons.mpr ⟨za_ok93, List.forall_mem_cons.mpr ⟨za_ok94, List.forall_mem_cons.mpr ⟨za_ok95, List.forall_mem_cons.mpr ⟨za_ok96, List.forall_mem_cons.mpr ⟨za_ok97, List.forall_mem_cons.mpr ⟨za_ok98, List.forall_mem_cons.mpr ⟨za_ok99, List.forall_mem_cons.mpr ⟨za_ok100, List.forall_mem_cons.mpr ⟨za_ok101, List.forall_mem_cons.mpr ⟨za_ok102, List.forall_mem_cons.mpr ⟨za_ok103, List.forall_mem_cons.mpr ⟨za_ok104, List.forall_mem_cons.mpr ⟨za_ok105, List.forall_mem_cons.mpr ⟨za_ok106, List.forall_mem_cons.mpr ⟨za_ok107, List.forall_mem_cons.mpr ⟨za_ok108, List.forall_mem_cons.mpr ⟨za_ok110, fun _ h => absurd h List.not_mem_nil⟩⟩⟩⟩⟩⟩⟩⟩⟩⟩⟩⟩⟩⟩⟩⟩⟩⟩⟩⟩⟩⟩⟩⟩⟩⟩⟩⟩⟩⟩⟩⟩⟩⟩⟩⟩⟩⟩⟩⟩⟩⟩⟩⟩⟩⟩⟩⟩⟩⟩⟩⟩⟩⟩⟩⟩⟩⟩⟩⟩⟩⟩⟩⟩⟩⟩⟩⟩⟩⟩⟩⟩⟩⟩⟩⟩⟩⟩⟩⟩⟩⟩⟩⟩⟩⟩⟩⟩⟩⟩⟩⟩⟩⟩⟩⟩⟩⟩⟩⟩⟩⟩⟩⟩⟩
def za_mq (q : (Nat × Nat) × Nat) : Prop := q.2 ∈ za_callable ∧ Cond.methodLink (za_cn q.1.1) q.1.2 (za_y q.2) ∈ za_tb
set_option maxRecDepth 100000 in
theorem za_m0 : za_mq ((0, 43), 4) := ⟨by decide, za_mem 193 rfl rfl⟩
set_option maxRecDepth 100000 in
theorem za_m1 : za_mq ((0, 53), 15) := ⟨by decide, za_mem 303 rfl rfl⟩
set_option maxRecDepth 100000 in
theorem za_m2 : za_mq ((0, 56), 11) := ⟨by decide, za_mem 307 rfl rfl⟩
set_option maxRecDepth 100000 in
theorem za_m3 : za_mq ((0, 60), 14) := ⟨by decide, za_mem 308 rfl rfl⟩
set_option maxRecDepth 100000 in
theorem za_m4 : za_mq ((0, 64), 9) := ⟨by decide, za_mem 316 rfl rfl⟩
set_option maxRecDepth 100000 in
theorem za_m5 : za_mq ((0, 67), 110) := ⟨by decide, za_mem 312 rfl rfl⟩
set_option maxRecDepth 100000 in
theorem za_m6 : za_mq ((0, 70), 13) := ⟨by decide, za_mem 299 rfl rfl⟩
set_option maxRecDepth 100000 in
theorem za_m7 : za_mq ((0, 74), 18) := ⟨by decide, za_mem 317 rfl rfl⟩
set_option maxRecDepth 100000 in
theorem za_m8 : za_mq ((0, 77), 20) := ⟨by decide, za_mem 325 rfl rfl⟩
set_option maxRecDepth 100000 in
theorem za_m9 : za_mq ((0, 80), 19) := ⟨by decide, za_mem 329 rfl rfl⟩
set_option maxRecDepth 100000 in
theorem za_m10 : za_mq ((0, 83), 22) := ⟨by decide, za_mem 333 rfl rfl⟩
set_option maxRecDepth 100000 in
theorem za_m11 : za_mq ((0, 86), 21) := ⟨by decide, za_mem 337 rfl rfl⟩
set_option maxRecDepth 100000 in
theorem za_m12 : za_mq ((0, 89), 17) := ⟨by decide, za_mem 321 rfl rfl⟩
set_option maxRecDepth 100000 in
theorem za_m13 : za_mq ((0, 92), 7) := ⟨by decide, za_mem 341 rfl rfl⟩
set_option maxRecDepth 100000 in
theorem za_m14 : za_mq ((0, 95), 24) := ⟨by decide, za_mem 406 rfl rfl⟩
set_option maxRecDepth 100000 in
theorem za_m15 : za_mq ((0, 98), 25) := ⟨by decide, za_mem 410 rfl rfl⟩
set_option maxRecDepth 100000 in
theorem za_m16 : za_mq ((1, 38), 28) := ⟨by decide, za_mem 146 rfl rfl⟩
set_option maxRecDepth 100000 in
theorem za_m17 : za_mq ((1, 49), 35) := ⟨by decide, za_mem 217 rfl rfl⟩
set_option maxRecDepth 100000 in
theorem za_m18 : za_mq ((1, 52), 38) := ⟨by decide, za_mem 221 rfl rfl⟩
set_option maxRecDepth 100000 in
theorem za_m19 : za_mq ((1, 56), 37) := ⟨by decide, za_mem 262 rfl rfl⟩
set_option maxRecDepth 100000 in
theorem za_m20 : za_mq ((1, 60), 36) := ⟨by decide, za_mem 225 rfl rfl⟩
set_option maxRecDepth 100000 in
theorem za_m21 : za_mq ((1, 63), 39) := ⟨by decide, za_mem 228 rfl rfl⟩
set_option maxRecDepth 100000 in
theorem za_m22 : za_mq ((1, 67), 12) := ⟨by decide, za_mem 232 rfl rfl⟩
set_option maxRecDepth 100000 in
theorem za_m23 : za_mq ((1, 73), 11) := ⟨by decide, za_mem 233 rfl rfl⟩
set_option maxRecDepth 100000 in
theorem za_m24 : za_mq ((1, 76), 40) := ⟨by decide, za_mem 237 rfl rfl⟩
set_option maxRecDepth 100000 in
theorem za_m25 : za_mq ((1, 80), 41) := ⟨by decide, za_mem 244 rfl rfl⟩
set_option maxRecDepth 100000 in
theorem za_m26 : za_mq ((1, 83), 42) := ⟨by decide, za_mem 248 rfl rfl⟩
set_option maxRecDepth 100000 in
theorem za_m27 : za_mq ((1, 86), 43) := ⟨by decide, za_mem 255 rfl rfl⟩
set_option maxRecDepth 100000 in
theorem za_m28 : za_mq ((1, 89), 6) := ⟨by decide, za_mem 231 rfl rfl⟩
set_option maxRecDepth 100000 in
theorem za_m29 : za_mq ((1, 92), 9) := ⟨by decide, za_mem 240 rfl rfl⟩
set_option maxRecDepth 100000 in
theorem za_m30 : za_mq ((1, 96), 10) := ⟨by decide, za_mem 247 rfl rfl⟩
set_option maxRecDepth 100000 in
theorem za_m31 : za_mq ((1, 100), 7) := ⟨by decide, za_mem 251 rfl rfl⟩
set_option maxRecDepth 100000 in
theorem za_m32 : za_mq ((1, 103), 8) := ⟨by decide, za_mem 258 rfl rfl⟩
set_option maxRecDepth 100000 in
theorem za_m33 : za_mq ((2, 15), 1) := ⟨by decide, za_mem 364 rfl rfl⟩
set_option maxRecDepth 100000 in
theorem za_m34 : za_mq ((2, 21), 50) := ⟨by decide, za_mem 365 rfl rfl⟩
set_option maxRecDepth 100000 in
theorem za_m35 : za_mq ((2, 25), 48) := ⟨by decide, za_mem 382 rfl rfl⟩
set_option maxRecDepth 100000 in
theorem za_m36 : za_mq ((2, 30), 12) := ⟨by decide, za_mem 390 rfl rfl⟩
set_option maxRecDepth 100000 in
theorem za_m37 : za_mq ((2, 34), 46) := ⟨by decide, za_mem 385 rfl rfl⟩
set_option maxRecDepth 100000 in
theorem za_m38 : za_mq ((2, 38), 6) := ⟨by decide, za_mem 369 rfl rfl⟩
set_option maxRecDepth 100000 in
theorem za_m39 : za_mq ((2, 42), 49) := ⟨by decide, za_mem 386 rfl rfl⟩
set_option maxRecDepth 100000 in
theorem za_m40 : za_mq ((2, 46), 10) := ⟨by decide, za_mem 370 rfl rfl⟩
set_option maxRecDepth 100000 in
theorem za_m41 : za_mq ((2, 50), 51) := ⟨by decide, za_mem 371 rfl rfl⟩
set_option maxRecDepth 100000 in
theorem za_m42 : za_mq ((2, 54), 52) := ⟨by decide, za_mem 374 rfl rfl⟩
set_option maxRecDepth 100000 in
theorem za_m43 : za_mq ((2, 57), 53) := ⟨by decide, za_mem 378 rfl rfl⟩
set_option maxRecDepth 100000 in
theorem za_m44 : za_mq ((3, 40), 27) := ⟨by decide, za_mem 141 rfl rfl⟩
set_option maxRecDepth 100000 in
theorem za_m45 : za_mq ((3, 44), 29) := ⟨by decide, za_mem 155 rfl rfl⟩
set_option maxRecDepth 100000 in
theorem za_m46 : za_mq ((3, 48), 30) := ⟨by decide, za_mem 163 rfl rfl⟩
set_option maxRecDepth 100000 in
theorem za_m47 : za_mq ((3, 52), 1) := ⟨by decide, za_mem 171 rfl rfl⟩
set_option maxRecDepth 100000 in
theorem za_m48 : za_mq ((3, 53), 6) := ⟨by decide, za_mem 176 rfl rfl⟩
set_option maxRecDepth 100000 in
theorem za_m49 : za_mq ((3, 56), 4) := ⟨by decide, za_mem 184 rfl rfl⟩
set_option maxRecDepth 100000 in
theorem za_m50 : za_mq ((3, 60), 72) := ⟨by decide, za_mem 188 rfl rfl⟩
set_option maxRecDepth 100000 in
theorem za_m51 : za_mq ((3, 63), 5) := ⟨by decide, za_mem 189 rfl rfl⟩
set_option maxRecDepth 100000 in
theorem za_m52 : za_mq ((3, 66), 10) := ⟨by decide, za_mem 194 rfl rfl⟩
set_option maxRecDepth 100000 in
theorem za_m53 : za_mq ((3, 70), 71) := ⟨by decide, za_mem 203 rfl rfl⟩
set_option maxRecDepth 100000 in
theorem za_m54 : za_mq ((3, 73), 12) := ⟨by decide, za_mem 204 rfl rfl⟩
set_option maxRecDepth 100000 in
theorem za_m55 : za_mq ((3, 77), 34) := ⟨by decide, za_mem 213 rfl rfl⟩
set_option maxRecDepth 100000 in
theorem za_m56 : za_mq ((3, 81), 32) := ⟨by decide, za_mem 269 rfl rfl⟩
set_option maxRecDepth 100000 in
theorem za_m57 : za_mq ((3, 84), 33) := ⟨by decide, za_mem 273 rfl rfl⟩
set_option maxRecDepth 100000 in
theorem za_m58 : za_mq ((3, 87), 11) := ⟨by decide, za_mem 281 rfl rfl⟩
set_option maxRecDepth 100000 in
theorem za_m59 : za_mq ((3, 90), 9) := ⟨by decide, za_mem 286 rfl rfl⟩
set_option maxRecDepth 100000 in
theorem za_m60 : za_mq ((3, 94), 7) := ⟨by decide, za_mem 287 rfl rfl⟩
set_option maxRecDepth 100000 in
theorem za_m61 : za_mq ((3, 97), 73) := ⟨by decide, za_mem 292 rfl rfl⟩
set_option maxRecDepth 100000 in
theorem za_m62 : za_mq ((3, 100), 16) := ⟨by decide, za_mem 295 rfl rfl⟩
set_option maxRecDepth 100000 in
theorem za_m63 : za_mq ((3, 104), 13) := ⟨by decide, za_mem 346 rfl rfl⟩
set_option maxRecDepth 100000 in
theorem za_m64 : za_mq ((3, 108), 74) := ⟨by decide, za_mem 351 rfl rfl⟩
set_option maxRecDepth 100000 in
theorem za_m65 : za_mq ((3, 111), 45) := ⟨by decide, za_mem 354 rfl rfl⟩
set_option maxRecDepth 100000 in
theorem za_m66 : za_mq ((3, 114), 46) := ⟨by decide, za_mem 357 rfl rfl⟩
set_option maxRecDepth 100000 in
theorem za_m67 : za_mq ((3, 117), 47) := ⟨by decide, za_mem 360 rfl rfl⟩
set_option maxRecDepth 100000 in
theorem za_m68 : za_mq ((3, 121), 70) := ⟨by decide, za_mem 391 rfl rfl⟩
set_option maxRecDepth 100000 in
theorem za_m69 : za_mq ((3, 125), 2) := ⟨by decide, za_mem 395 rfl rfl⟩
set_option maxRecDepth 100000 in
theorem za_m70 : za_mq ((3, 129), 3) := ⟨by decide, za_mem 422 rfl rfl⟩
set_option maxRecDepth 100000 in
theorem za_m71 : za_mq ((3, 132), 31) := ⟨by decide, za_mem 426 rfl rfl⟩
set_option maxRecDepth 100000 in
theorem za_m72 : za_mq ((3, 135), 23) := ⟨by decide, za_mem 402 rfl rfl⟩
set_option maxRecDepth 100000 in
theorem za_m73 : za_mq ((4, 64), 76) := ⟨by decide, za_mem 517 rfl rfl⟩
set_option maxRecDepth 100000 in
theorem za_m74 : za_mq ((4, 68), 78) := ⟨by decide, za_mem 514 rfl rfl⟩
set_option maxRecDepth 100000 in
theorem za_m75 : za_mq ((4, 72), 79) := ⟨by decide, za_mem 511 rfl rfl⟩
set_option maxRecDepth 100000 in
theorem za_m76 : za_mq ((4, 79), 77) := ⟨by decide, za_mem 536 rfl rfl⟩
set_option maxRecDepth 100000 in
theorem za_m77 : za_mq ((4, 85), 83) := ⟨by decide, za_mem 548 rfl rfl⟩
set_option maxRecDepth 100000 in
theorem za_m78 : za_mq ((4, 92), 90) := ⟨by decide, za_mem 573 rfl rfl⟩
set_option maxRecDepth 100000 in
theorem za_m79 : za_mq ((4, 96), 91) := ⟨by decide, za_mem 569 rfl rfl⟩
set_option maxRecDepth 100000 in
theorem za_m80 : za_mq ((4, 99), 92) := ⟨by decide, za_mem 577 rfl rfl⟩
set_option maxRecDepth 100000 in
theorem za_m81 : za_mq ((4, 102), 93) := ⟨by decide, za_mem 581 rfl rfl⟩
set_option maxRecDepth 100000 in
theorem za_m82 : za_mq ((4, 105), 94) := ⟨by decide, za_mem 585 rfl rfl⟩
set_option maxRecDepth 100000 in
theorem za_m83 : za_mq ((4, 108), 95) := ⟨by decide, za_mem 565 rfl rfl⟩
set_option maxRecDepth 100000 in
theorem za_m84 : za_mq ((4, 115), 98) := ⟨by decide, za_mem 605 rfl rfl⟩
set_option maxRecDepth 100000 in
theorem za_m85 : za_mq ((4, 118), 99) := ⟨by decide, za_mem 609 rfl rfl⟩
set_option maxRecDepth 100000 in
theorem za_m86 : za_mq ((4, 121), 102) := ⟨by decide, za_mem 617 rfl rfl⟩
set_option maxRecDepth 100000 in
theorem za_m87 : za_mq ((4, 124), 82) := ⟨by decide, za_mem 621 rfl rfl⟩
set_option maxRecDepth 100000 in
theorem za_m88 : za_mq ((4, 131), 103) := ⟨by decide, za_mem 597 rfl rfl⟩
set_option maxRecDepth 100000 in
theorem za_m89 : za_mq ((4, 137), 100) := ⟨by decide, za_mem 601 rfl rfl⟩
set_option maxRecDepth 100000 in
theorem za_m90 : za_mq ((4, 141), 101) := ⟨by decide, za_mem 613 rfl rfl⟩
set_option maxRecDepth 100000 in
theorem za_m91 : za_mq ((4, 144), 86) := ⟨by decide, za_mem 622 rfl rfl⟩
set_option maxRecDepth 100000 in
theorem za_m92 : za_mq ((4, 147), 105) := ⟨by decide, za_mem 623 rfl rfl⟩
set_option maxRecDepth 100000 in
theorem za_m93 : za_mq ((4, 150), 104) := ⟨by decide, za_mem 627 rfl rfl⟩
set_option maxRecDepth 100000 in
theorem za_m94 : za_mq ((5, 13), 55) := ⟨by decide, za_mem 137 rfl rfl⟩
set_option maxRecDepth 100000 in
theorem za_m95 : za_mq ((5, 17), 80) := ⟨by decide, za_mem 507 rfl rfl⟩
set_option maxRecDepth 100000 in
theorem za_m96 : za_mq ((5, 18), 56) := ⟨by decide, za_mem 159 rfl rfl⟩
set_option maxRecDepth 100000 in
theorem za_m97 : za_mq ((5, 22), 81) := ⟨by decide, za_mem 520 rfl rfl⟩
set_option maxRecDepth 100000 in
theorem za_m98 : za_mq ((5, 23), 57) := ⟨by decide, za_mem 167 rfl rfl⟩
set_option maxRecDepth 100000 in
theorem za_m99 : za_mq ((5, 26), 82) := ⟨by decide, za_mem 524 rfl rfl⟩
set_option maxRecDepth 100000 in
theorem za_m100 : za_mq ((5, 27), 58) := ⟨by decide, za_mem 172 rfl rfl⟩
set_option maxRecDepth 100000 in
theorem za_m101 : za_mq ((5, 31), 83) := ⟨by decide, za_mem 528 rfl rfl⟩
set_option maxRecDepth 100000 in
theorem za_m102 : za_mq ((5, 32), 59) := ⟨by decide, za_mem 180 rfl rfl⟩
set_option maxRecDepth 100000 in
theorem za_m103 : za_mq ((5, 36), 84) := ⟨by decide, za_mem 532 rfl rfl⟩
set_option maxRecDepth 100000 in
theorem za_m104 : za_mq ((5, 37), 60) := ⟨by decide, za_mem 199 rfl rfl⟩
set_option maxRecDepth 100000 in
theorem za_m105 : za_mq ((5, 41), 85) := ⟨by decide, za_mem 540 rfl rfl⟩
set_option maxRecDepth 100000 in
theorem za_m106 : za_mq ((5, 42), 61) := ⟨by decide, za_mem 209 rfl rfl⟩
set_option maxRecDepth 100000 in
theorem za_m107 : za_mq ((5, 45), 86) := ⟨by decide, za_mem 544 rfl rfl⟩
set_option maxRecDepth 100000 in
theorem za_m108 : za_mq ((5, 46), 62) := ⟨by decide, za_mem 265 rfl rfl⟩
set_option maxRecDepth 100000 in
theorem za_m109 : za_mq ((5, 49), 87) := ⟨by decide, za_mem 549 rfl rfl⟩
set_option maxRecDepth 100000 in
theorem za_m110 : za_mq ((5, 50), 63) := ⟨by decide, za_mem 277 rfl rfl⟩
set_option maxRecDepth 100000 in
theorem za_m111 : za_mq ((5, 53), 88) := ⟨by decide, za_mem 553 rfl rfl⟩
set_option maxRecDepth 100000 in
theorem za_m112 : za_mq ((5, 54), 64) := ⟨by decide, za_mem 282 rfl rfl⟩
set_option maxRecDepth 100000 in
theorem za_m113 : za_mq ((5, 57), 89) := ⟨by decide, za_mem 557 rfl rfl⟩
set_option maxRecDepth 100000 in
theorem za_m114 : za_mq ((5, 58), 65) := ⟨by decide, za_mem 288 rfl rfl⟩
set_option maxRecDepth 100000 in
theorem za_m115 : za_mq ((5, 61), 96) := ⟨by decide, za_mem 561 rfl rfl⟩
set_option maxRecDepth 100000 in
theorem za_m116 : za_mq ((5, 62), 66) := ⟨by decide, za_mem 342 rfl rfl⟩
set_option maxRecDepth 100000 in
theorem za_m117 : za_mq ((5, 66), 97) := ⟨by decide, za_mem 589 rfl rfl⟩
set_option maxRecDepth 100000 in
theorem za_m118 : za_mq ((5, 67), 67) := ⟨by decide, za_mem 347 rfl rfl⟩
set_option maxRecDepth 100000 in
theorem za_m119 : za_mq ((5, 71), 106) := ⟨by decide, za_mem 593 rfl rfl⟩
set_option maxRecDepth 100000 in
theorem za_m120 : za_mq ((5, 72), 68) := ⟨by decide, za_mem 414 rfl rfl⟩
set_option maxRecDepth 100000 in
theorem za_m121 : za_mq ((5, 75), 107) := ⟨by decide, za_mem 631 rfl rfl⟩
set_option maxRecDepth 100000 in
theorem za_m122 : za_mq ((5, 76), 69) := ⟨by decide, za_mem 418 rfl rfl⟩
set_option maxRecDepth 100000 in
theorem za_m123 : za_mq ((5, 79), 108) := ⟨by decide, za_mem 635 rfl rfl⟩
theorem za_m_all : ∀ q ∈ za_ml, za_mq q := List.forall_mem_cons.mpr ⟨za_m0, List.forall_mem_cons.mpr ⟨za_m1, List.forall_mem_cons.mpr ⟨za_m2, List.forall_mem_cons.mpr ⟨za_m3, List.forall_mem_cons.mpr ⟨za_m4, List.forall_mem_cons.mpr ⟨za_m5, List.forall_mem_cons.mpr ⟨za_m6, List.forall_mem_cons.mpr ⟨za_m7, List.forall_mem_cons.mpr ⟨za_m8, List.forall_mem_cons.mpr ⟨za_m9, List.forall_mem_cons.mpr ⟨za_m10, List.forall_mem_cons.mpr ⟨za_m11, List.forall_mem_cons.mpr ⟨za_m12, List.forall_mem_cons.mpr ⟨za_m13, List.forall_mem_cons.mpr ⟨za_m14, List.forall_mem_cons.mpr ⟨za_m15, List.forall_mem_cons.mpr ⟨za_m16, List.forall_mem_cons.mpr ⟨za_m17, List.forall_mem_cons.mpr ⟨za_m18, List.forall_mem_cons.mpr ⟨za_m19, List.forall_mem_cons.mpr ⟨za_m20, List.forall_mem_cons.mpr ⟨za_m21, List.forall_mem_cons.mpr ⟨za_m22, List.forall_mem_cons.mpr ⟨za_m23, List.forall_mem_cons.mpr ⟨za_m24, List.forall_mem_cons.mpr ⟨za_m25, List.forall_mem_cons.mpr ⟨za_m26, List.forall_mem_cons.mpr ⟨za_m27, List.forall_mem_cons.mpr ⟨za_m28, List.forall_mem_cons.mpr ⟨za_m29, List.forall_mem_cons.mpr ⟨za_m30, List.forall_mem_cons.mpr ⟨za_m31, List.forall_mem_cons.mpr ⟨za_m32, List.forall_mem_cons.mpr ⟨za_m33, List.forall_mem_cons.mpr ⟨za_m34, List.forall_mem_cons.mpr ⟨za_m35, List.forall_mem_cons.mpr ⟨za_m36, List.forall_mem_cons.mpr ⟨za_m37, List.forall_mem_cons.mpr ⟨za_m38, List.forall_mem_cons.mpr ⟨za_m39, List.forall_mem_cons.mpr ⟨za_m40, List.forall_mem_cons.mpr ⟨za_m41, List.forall_mem_cons.mpr ⟨za_m42, List.forall_mem_cons.mpr ⟨za_m43, List.forall_mem_cons.mpr ⟨za_m44, List.forall_mem_cons.mpr ⟨za_m45, List.forall_mem_cons.mpr ⟨za_m46, List.forall_mem_cons.mpr ⟨za_m47, List.forall_mem_cons.mpr ⟨za_m48, List.forall_mem_cons.mpr ⟨za_m49, List.forall_mem_cons.mpr ⟨za_m50, List.forall_mem_cons.mpr ⟨za_m51, List.forall_mem_cons.mpr ⟨za_m52, List.forall_mem_cons.mpr ⟨za_m53, List.forall_mem_cons.mpr ⟨za_m54, List.forall_mem_cons.mpr ⟨za_m55, List.forall_mem_cons.mpr ⟨za_m56, List.forall_mem_cons.mpr ⟨za_m57, List.forall_mem_cons.mpr ⟨za_m58, List.forall_mem_cons.mpr ⟨za_m59, List.forall_mem_cons.mpr ⟨za_m60, List.forall_mem_cons.mpr ⟨za_m61, List.forall_mem_cons.mpr ⟨za_m62, List.forall_mem_cons.mpr ⟨za_m63, List.forall_mem_cons.mpr ⟨za_m64, List.forall_mem_cons.mpr ⟨za_m65, List.forall_mem_cons.mpr ⟨za_m66, List.forall_mem_cons.mpr ⟨za_m67, List.forall_mem_cons.mpr ⟨za_m68, List.forall_mem_cons.mpr ⟨za_m69, List.forall_mem_cons.mpr ⟨za_m70, List.forall_mem_cons.mpr ⟨za_m71, List.forall_mem_cons.mpr ⟨za_m72, List.forall_mem_cons.mpr ⟨za_m73, List.forall_mem_cons.mpr ⟨za_m74, List.forall_mem_cons.mpr ⟨za_m75, List.forall_mem_cons.mpr ⟨za_m76, List.forall_mem_cons.mpr ⟨za_m77, List.forall_mem_cons.mpr ⟨za_m78, List.forall_mem_cons.mpr ⟨za_m79, List.forall_mem_cons.mpr ⟨za_m80, List.forall_mem_cons.mpr ⟨za_m81, List.forall_mem_cons.mpr ⟨za_m82, List.forall_mem_cons.mpr ⟨za_m83, List.forall_mem_cons.mpr ⟨za_m84, List.forall_mem_cons.mpr ⟨za_m85, List.forall_mem_cons.mpr ⟨za_m86, List.forall_mem_cons.mpr ⟨za_m87, List.forall_mem_cons.mpr ⟨za_m88, List.forall_mem_cons.mpr ⟨za_m89, List.forall_mem_cons.mpr ⟨za_m90, List.forall_mem_cons.mpr ⟨za_m91, List.forall_mem_cons.mpr ⟨za_m92, List.forall_mem_cons.mpr ⟨za_m93, List.forall_mem_cons.mpr ⟨za_m94, List.forall_mem_cons.mpr ⟨za_m95, List.forall_mem_cons.mpr ⟨za_m96, List.forall_mem_cons.mpr ⟨za_m97, List.forall_mem_cons.mpr ⟨za_m98, List.forall_mem_cons.mpr ⟨za_m99, List.forall_mem_cons.mpr ⟨za_m100, List.forall_mem_cons.mpr ⟨za_m101, List.forall_mem_cons.mpr ⟨za_m102, List.forall_mem_cons.mpr ⟨za_m103, List.forall_mem_cons.mpr ⟨za_m104, List.forall_mem_cons.mpr ⟨za_m105, List.forall_mem_cons.mpr ⟨za_m106, List.forall_mem_cons.mpr ⟨za_m107, List.forall_mem_cons.mpr ⟨za_m108, List.forall_mem_cons.mpr ⟨za_m109, List.forall_mem_cons.mpr ⟨za_m110, List.forall_mem_cons.mpr ⟨za_m111, List.forall_mem_cons.mpr ⟨za_m112, List.forall_mem_cons.mpr ⟨za_m113, List.forall_mem_cons.mpr ⟨za_m114, List.forall_mem_cons.mpr ⟨za_m115, List.forall_mem_cons.mpr ⟨za_m116, List.forall_mem_cons.mpr ⟨za_m117, List.forall_mem_cons.mpr ⟨za_m118, List.forall_mem_cons.mpr ⟨za_m119, List.forall_mem_cons.mpr ⟨za_m120, List.forall_mem_cons.mpr ⟨za_m121, List.forall_mem_cons.mpr ⟨za_m122, List.forall_mem_cons.mpr ⟨za_m123, fun _ h => absurd h List.not_mem_nil⟩⟩⟩⟩⟩⟩⟩⟩⟩⟩⟩⟩⟩⟩⟩⟩⟩⟩⟩⟩⟩⟩⟩⟩⟩⟩⟩⟩⟩⟩⟩⟩⟩⟩⟩⟩⟩⟩⟩⟩⟩⟩⟩⟩⟩⟩⟩⟩⟩⟩⟩⟩⟩⟩⟩⟩⟩⟩⟩⟩⟩⟩⟩⟩⟩⟩⟩⟩⟩⟩⟩⟩⟩⟩⟩⟩⟩⟩⟩⟩⟩⟩⟩⟩⟩⟩⟩⟩⟩⟩⟩⟩⟩⟩⟩⟩⟩⟩⟩⟩⟩⟩⟩⟩⟩⟩⟩⟩⟩⟩⟩⟩⟩⟩⟩⟩⟩⟩⟩⟩⟩⟩⟩⟩
def za_nq (q : (Nat × Nat) × Nat) : Prop := q.2 ∈ za_callable ∧ Cond.methodLinkNest (za_cn q.1.1) q.1.2 (za_y q.2) "ShapeForms" ∈ lw_tbl
set_option maxRecDepth 100000 in
theorem za_n0 : za_nq ((0, 47), 72) := ⟨by decide, List.mem_of_getElem? (i := 198) rfl⟩
set_option maxRecDepth 100000 in
theorem za_n1 : za_nq ((0, 50), 71) := ⟨by decide, List.mem_of_getElem? (i := 208) rfl⟩
set_option maxRecDepth 100000 in
theorem za_n2 : za_nq ((1, 42), 71) := ⟨by decide, List.mem_of_getElem? (i := 149) rfl⟩
set_option maxRecDepth 100000 in
theorem za_n3 : za_nq ((1, 46), 72) := ⟨by decide, List.mem_of_getElem? (i := 152) rfl⟩
theorem za_n_all : ∀ q ∈ za_nl, za_nq q := List.forall_mem_cons.mpr ⟨za_n0, List.forall_mem_cons.mpr ⟨za_n1, List.forall_mem_cons.mpr ⟨za_n2, List.forall_mem_cons.mpr ⟨za_n3, fun _ h => absurd h List.not_mem_nil⟩⟩⟩⟩
def za_T (ci : Nat) : u_T := (vwCl.getD ci ("", TX0, 0)).2.1
def za_fq (q : (Nat × Nat) × (Nat × Nat)) : Prop := q.2.1 < 5 ∧ q.2.2 < (vwCl.getD q.2.1 ("", TX0, 0)).2.2 ∧ Cond.fieldLink (za_cn q.1.1) q.1.2 (za_T q.2.1 q.2.2).1 (za_T q.2.1 q.2.2).2.1 (za_T q.2.1 q.2.2).2.2.1 ∈ za_tb
set_option maxRecDepth 100000 in
theorem za_f0 : za_fq ((0, 9), (0, 0)) := ⟨by decide, by decide, za_mem 88 rfl rfl⟩
set_option maxRecDepth 100000 in
theorem za_f1 : za_fq ((0, 15), (0, 1)) := ⟨by decide, by decide, za_mem 89 rfl rfl⟩
set_option maxRecDepth 100000 in
theorem za_f2 : za_fq ((0, 18), (0, 2)) := ⟨by decide, by decide, za_mem 90 rfl rfl⟩
set_option maxRecDepth 100000 in
theorem za_f3 : za_fq ((0, 21), (0, 4)) := ⟨by decide, by decide, za_mem 92 rfl rfl⟩
set_option maxRecDepth 100000 in
theorem za_f4 : za_fq ((0, 24), (0, 5)) := ⟨by decide, by decide, za_mem 93 rfl rfl⟩
set_option maxRecDepth 100000 in
theorem za_f5 : za_fq ((0, 32), (0, 3)) := ⟨by decide, by decide, za_mem 91 rfl rfl⟩
set_option maxRecDepth 100000 in
theorem za_f6 : za_fq ((1, 9), (1, 0)) := ⟨by decide, by decide, za_mem 54 rfl rfl⟩
set_option maxRecDepth 100000 in
theorem za_f7 : za_fq ((1, 15), (1, 1)) := ⟨by decide, by decide, za_mem 55 rfl rfl⟩
set_option maxRecDepth 100000 in
theorem za_f8 : za_fq ((1, 18), (1, 2)) := ⟨by decide, by decide, za_mem 56 rfl rfl⟩
set_option maxRecDepth 100000 in
theorem za_f9 : za_fq ((1, 21), (1, 3)) := ⟨by decide, by decide, za_mem 57 rfl rfl⟩
set_option maxRecDepth 100000 in
theorem za_f10 : za_fq ((1, 24), (1, 4)) := ⟨by decide, by decide, za_mem 58 rfl rfl⟩
set_option maxRecDepth 100000 in
theorem za_f11 : za_fq ((1, 28), (1, 5)) := ⟨by decide, by decide, za_mem 59 rfl rfl⟩
set_option maxRecDepth 100000 in
theorem za_f12 : za_fq ((1, 32), (1, 6)) := ⟨by decide, by decide, za_mem 60 rfl rfl⟩
set_option maxRecDepth 100000 in
theorem za_f13 : za_fq ((2, 9), (2, 0)) := ⟨by decide, by decide, za_mem 114 rfl rfl⟩
set_option maxRecDepth 100000 in
theorem za_f14 : za_fq ((3, 10), (3, 0)) := ⟨by decide, by decide, za_mem 118 rfl rfl⟩
set_option maxRecDepth 100000 in
theorem za_f15 : za_fq ((3, 19), (3, 1)) := ⟨by decide, by decide, za_mem 119 rfl rfl⟩
set_option maxRecDepth 100000 in
theorem za_f16 : za_fq ((3, 26), (3, 2)) := ⟨by decide, by decide, za_mem 120 rfl rfl⟩
set_option maxRecDepth 100000 in
theorem za_f17 : za_fq ((3, 30), (3, 3)) := ⟨by decide, by decide, za_mem 121 rfl rfl⟩
set_option maxRecDepth 100000 in
theorem za_f18 : za_fq ((3, 33), (3, 4)) := ⟨by decide, by decide, za_mem 122 rfl rfl⟩
set_option maxRecDepth 100000 in
theorem za_f19 : za_fq ((3, 36), (3, 5)) := ⟨by decide, by decide, za_mem 123 rfl rfl⟩
set_option maxRecDepth 100000 in
theorem za_f20 : za_fq ((4, 7), (4, 1)) := ⟨by decide, by decide, za_mem 438 rfl rfl⟩
set_option maxRecDepth 100000 in
theorem za_f21 : za_fq ((4, 13), (4, 2)) := ⟨by decide, by decide, za_mem 439 rfl rfl⟩
set_option maxRecDepth 100000 in
theorem za_f22 : za_fq ((4, 16), (4, 3)) := ⟨by decide, by decide, za_mem 440 rfl rfl⟩
set_option maxRecDepth 100000 in
theorem za_f23 : za_fq ((4, 19), (4, 5)) := ⟨by decide, by decide, za_mem 442 rfl rfl⟩
set_option maxRecDepth 100000 in
theorem za_f24 : za_fq ((4, 22), (4, 6)) := ⟨by decide, by decide, za_mem 443 rfl rfl⟩
set_option maxRecDepth 100000 in
theorem za_f25 : za_fq ((4, 25), (4, 7)) := ⟨by decide, by decide, za_mem 444 rfl rfl⟩
set_option maxRecDepth 100000 in
theorem za_f26 : za_fq ((4, 28), (4, 8)) := ⟨by decide, by decide, za_mem 445 rfl rfl⟩
set_option maxRecDepth 100000 in
theorem za_f27 : za_fq ((4, 32), (4, 10)) := ⟨by decide, by decide, za_mem 447 rfl rfl⟩
set_option maxRecDepth 100000 in
theorem za_f28 : za_fq ((4, 36), (4, 12)) := ⟨by decide, by decide, za_mem 449 rfl rfl⟩
set_option maxRecDepth 100000 in
theorem za_f29 : za_fq ((4, 40), (4, 13)) := ⟨by decide, by decide, za_mem 450 rfl rfl⟩
set_option maxRecDepth 100000 in
theorem za_f30 : za_fq ((4, 43), (4, 15)) := ⟨by decide, by decide, za_mem 452 rfl rfl⟩
set_option maxRecDepth 100000 in
theorem za_f31 : za_fq ((4, 46), (4, 17)) := ⟨by decide, by decide, za_mem 454 rfl rfl⟩
set_option maxRecDepth 100000 in
theorem za_f32 : za_fq ((4, 49), (4, 18)) := ⟨by decide, by decide, za_mem 455 rfl rfl⟩
set_option maxRecDepth 100000 in
theorem za_f33 : za_fq ((4, 52), (4, 20)) := ⟨by decide, by decide, za_mem 457 rfl rfl⟩
set_option maxRecDepth 100000 in
theorem za_f34 : za_fq ((4, 55), (4, 21)) := ⟨by decide, by decide, za_mem 458 rfl rfl⟩
set_option maxRecDepth 100000 in
theorem za_f35 : za_fq ((4, 58), (4, 22)) := ⟨by decide, by decide, za_mem 459 rfl rfl⟩
set_option maxRecDepth 100000 in
theorem za_f36 : za_fq ((4, 61), (4, 0)) := ⟨by decide, by decide, za_mem 437 rfl rfl⟩
set_option maxRecDepth 100000 in
theorem za_f37 : za_fq ((4, 76), (4, 4)) := ⟨by decide, by decide, za_mem 441 rfl rfl⟩
set_option maxRecDepth 100000 in
theorem za_f38 : za_fq ((4, 82), (4, 9)) := ⟨by decide, by decide, za_mem 446 rfl rfl⟩
set_option maxRecDepth 100000 in
theorem za_f39 : za_fq ((4, 89), (4, 14)) := ⟨by decide, by decide, za_mem 451 rfl rfl⟩
set_option maxRecDepth 100000 in
theorem za_f40 : za_fq ((4, 112), (4, 16)) := ⟨by decide, by decide, za_mem 453 rfl rfl⟩
set_option maxRecDepth 100000 in
theorem za_f41 : za_fq ((4, 128), (4, 19)) := ⟨by decide, by decide, za_mem 456 rfl rfl⟩
set_option maxRecDepth 100000 in
theorem za_f42 : za_fq ((4, 134), (4, 11)) := ⟨by decide, by decide, za_mem 448 rfl rfl⟩
theorem za_f_all : ∀ q ∈ za_fl, za_fq q := List.forall_mem_cons.mpr ⟨za_f0, List.forall_mem_cons.mpr ⟨za_f1, List.forall_mem_cons.mpr ⟨za_f2, List.forall_mem_cons.mpr ⟨za_f3, List.forall_mem_cons.mpr ⟨za_f4, List.forall_mem_cons.mpr ⟨za_f5, List.forall_mem_cons.mpr ⟨za_f6, List.forall_mem_cons.mpr ⟨za_f7, List.forall_mem_cons.mpr ⟨za_f8, List.forall_mem_cons.mpr ⟨za_f9, List.forall_mem_cons.mpr ⟨za_f10, List.forall_mem_cons.mpr ⟨za_f11, List.forall_mem_cons.mpr ⟨za_f12, List.forall_mem_cons.mpr ⟨za_f13, List.forall_mem_cons.mpr ⟨za_f14, List.forall_mem_cons.mpr ⟨za_f15, List.forall_mem_cons.mpr ⟨za_f16, List.forall_mem_cons.mpr ⟨za_f17, List.forall_mem_cons.mpr ⟨za_f18, List.forall_mem_cons.mpr ⟨za_f19, List.forall_mem_cons.mpr ⟨za_f20, List.forall_mem_cons.mpr ⟨za_f21, List.forall_mem_cons.mpr ⟨za_f22, List.forall_mem_cons.mpr ⟨za_f23, List.forall_mem_cons.mpr ⟨za_f24, List.forall_mem_cons.mpr ⟨za_f25, List.forall_mem_cons.mpr ⟨za_f26, List.forall_mem_cons.mpr ⟨za_f27, List.forall_mem_cons.mpr ⟨za_f28, List.forall_mem_cons.mpr ⟨za_f29, List.forall_mem_cons.mpr ⟨za_f30, List.forall_mem_cons.mpr ⟨za_f31, List.forall_mem_cons.mpr ⟨za_f32, List.forall_mem_cons.mpr ⟨za_f33, List.forall_mem_cons.mpr ⟨za_f34, List.forall_mem_cons.mpr ⟨za_f35, List.forall_mem_cons.mpr ⟨za_f36, List.forall_mem_cons.mpr ⟨za_f37, List.forall_mem_cons.mpr ⟨za_f38, List.forall_mem_cons.mpr ⟨za_f39, List.forall_mem_cons.mpr ⟨za_f40, List.forall_mem_cons.mpr ⟨za_f41, List.forall_mem_cons.mpr ⟨za_f42, fun _ h => absurd h List.not_mem_nil⟩⟩⟩⟩⟩⟩⟩⟩⟩⟩⟩⟩⟩⟩⟩⟩⟩⟩⟩⟩⟩⟩⟩⟩⟩⟩⟩⟩⟩⟩⟩⟩⟩⟩⟩⟩⟩⟩⟩⟩⟩⟩⟩
def za_cq (q : (Nat × Nat) × Int32) : Prop := Cond.constant (za_cn q.1.1) q.1.2 q.2 ∈ za_tb
set_option maxRecDepth 100000 in
theorem za_cc0 : za_cq ((0, 36), (-99999999)) := za_mem 87 rfl rfl
set_option maxRecDepth 100000 in
theorem za_cc1 : za_cq ((1, 31), (-99999999)) := za_mem 53 rfl rfl
set_option maxRecDepth 100000 in
theorem za_cc2 : za_cq ((2, 29), (-99999999)) := za_mem 389 rfl rfl
set_option maxRecDepth 100000 in
theorem za_cc3 : za_cq ((4, 31), (-99999999)) := za_mem 436 rfl rfl
theorem za_c_all : ∀ q ∈ za_cl, za_cq q := List.forall_mem_cons.mpr ⟨za_cc0, List.forall_mem_cons.mpr ⟨za_cc1, List.forall_mem_cons.mpr ⟨za_cc2, List.forall_mem_cons.mpr ⟨za_cc3, fun _ h => absurd h List.not_mem_nil⟩⟩⟩⟩
set_option maxRecDepth 100000 in
theorem za_ac : Cond.methodLink RX0 37 arraycopyName ∈ za_tb ∧ Cond.native arraycopyName ∈ za_tb ∧ Cond.static arraycopyName ∈ za_tb ∧ Cond.initialized "java/lang/System" ∈ za_tb := ⟨za_mem 399 rfl rfl, za_mem 401 rfl rfl, za_mem 400 rfl rfl, za_mem 38 rfl rfl⟩
set_option maxRecDepth 100000 in
theorem za_gs : Cond.fieldLink RX1 35 RX1 "KINDS" "[I" ∈ za_tb := za_mem 144 rfl rfl
theorem za_gX0 : ∀ w ∈ wsX00, w ∈ za_tb := fun w h => List.mem_filter.mpr ⟨za_iX0 w h, List.all_eq_true.mp (show wsX00.all goodWord = true by decide +kernel) w h⟩
theorem za_gX1 : ∀ w ∈ wsX10, w ∈ za_tb := fun w h => List.mem_filter.mpr ⟨za_iX1 w h, List.all_eq_true.mp (show wsX10.all goodWord = true by decide +kernel) w h⟩
theorem za_gX2 : ∀ w ∈ wsX20, w ∈ za_tb := fun w h => List.mem_filter.mpr ⟨za_iX2 w h, List.all_eq_true.mp (show wsX20.all goodWord = true by decide +kernel) w h⟩
theorem za_gX3 : ∀ w ∈ wsX30, w ∈ za_tb := fun w h => List.mem_filter.mpr ⟨za_iX3 w h, List.all_eq_true.mp (show wsX30.all goodWord = true by decide +kernel) w h⟩
theorem za_gX4 : ∀ w ∈ wsX40, w ∈ za_tb := fun w h => List.mem_filter.mpr ⟨za_iX4 w h, List.all_eq_true.mp (show wsX40.all goodWord = true by decide +kernel) w h⟩
