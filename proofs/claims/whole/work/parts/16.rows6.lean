/-! the rows of instructions, printed by program -/
set_option maxRecDepth 100000 in
theorem q109_18 {L : Nat} {l0 l1 l2 : Value} {x : Int32} {M : za_M} {Q : Int32 → za_M → Prop} : zT L 109 18 [l0, l1, l2, .int x] [] M Q ↔ zT L 109 19 [l0, l1, l2, .int x] [.int x] M Q := zT_nx rfl
set_option maxRecDepth 100000 in
theorem q109_19 {L : Nat} {l1 l2 l3 s0 : Value} {x : Nat} {M : za_M} {Q : Int32 → za_M → Prop} : zT L 109 19 [.ref x, l1, l2, l3] [s0] M Q ↔ zT L 109 20 [.ref x, l1, l2, l3] [.ref x, s0] M Q := zT_nx rfl
set_option maxRecDepth 100000 in
theorem q109_20 {L : Nat} {l0 l1 l2 l3 s1 : Value} {M : za_M} {Q : Int32 → za_M → Prop} : zT L 109 20 [l0, l1, l2, l3] [.ref 100, s1] M Q ↔ zT L 109 21 [l0, l1, l2, l3] [.int (nI L), s1] M Q := zT_nx rfl
set_option maxRecDepth 100000 in
theorem q109_21 {L : Nat} {l0 l1 l2 l3 s0 s1 : Value} {M : za_M} {Q : Int32 → za_M → Prop} : zT L 109 21 [l0, l1, l2, l3] [s0, s1] M Q ↔ zT L 109 23 [l0, l1, l2, l3] [.int (nI 7), s0, s1] M Q := zT_nx rfl
set_option maxRecDepth 100000 in
theorem q109_23 {L : Nat} {l0 l1 l2 l3 s2 : Value} {a b : Int32} {M : za_M} {Q : Int32 → za_M → Prop} : zT L 109 23 [l0, l1, l2, l3] [.int b, .int a, s2] M Q ↔ zT L 109 24 [l0, l1, l2, l3] [.int (a - b), s2] M Q := zT_nx rfl
set_option maxRecDepth 100000 in
theorem q109_24 {L : Nat} {l0 l1 l2 l3 : Value} {a b : Int32} {M : za_M} {Q : Int32 → za_M → Prop} : zT L 109 24 [l0, l1, l2, l3] [.int b, .int a] M Q ↔ (if b < a then zT L 109 593 [l0, l1, l2, l3] [] M Q else zT L 109 27 [l0, l1, l2, l3] [] M Q) := zT_if rfl
set_option maxRecDepth 100000 in
theorem q109_27 {L : Nat} {l1 l2 l3 : Value} {x : Nat} {M : za_M} {Q : Int32 → za_M → Prop} : zT L 109 27 [.ref x, l1, l2, l3] [] M Q ↔ zT L 109 28 [.ref x, l1, l2, l3] [.ref x] M Q := zT_nx rfl
set_option maxRecDepth 100000 in
theorem q109_28 {L : Nat} {l0 l1 l2 s0 : Value} {x : Int32} {M : za_M} {Q : Int32 → za_M → Prop} : zT L 109 28 [l0, l1, l2, .int x] [s0] M Q ↔ zT L 109 29 [l0, l1, l2, .int x] [.int x, s0] M Q := zT_nx rfl
set_option maxRecDepth 100000 in
theorem q109_29 {L : Nat} {l0 l1 l2 l3 : Value} {i : Int32} {a : Nat} {M : za_M} {Q : Int32 → za_M → Prop} : zT L 109 29 [l0, l1, l2, l3] [.int i, .ref a] M Q ↔ (za_in L a false i ∧ zT L 109 30 [l0, l1, l2, l3] [.int (M a i.toNatClampNeg)] M Q) := zT_ld rfl
set_option maxRecDepth 100000 in
theorem q109_30 {L : Nat} {l0 l1 l2 l3 s0 : Value} {M : za_M} {Q : Int32 → za_M → Prop} : zT L 109 30 [l0, l1, l2, l3] [s0] M Q ↔ zT L 109 32 [l0, l1, l2, l3] [.int (nI 15), s0] M Q := zT_nx rfl
set_option maxRecDepth 100000 in
theorem q109_32 {L : Nat} {l0 l1 l2 l3 : Value} {a b : Int32} {M : za_M} {Q : Int32 → za_M → Prop} : zT L 109 32 [l0, l1, l2, l3] [.int b, .int a] M Q ↔ zT L 109 33 [l0, l1, l2, l3] [.int (a &&& b)] M Q := zT_nx rfl
set_option maxRecDepth 100000 in
theorem q109_33_0 {L : Nat} {l0 l1 l2 l3 : Value} {M : za_M} {Q : Int32 → za_M → Prop} : zT L 109 33 [l0, l1, l2, l3] [.int (nI 0)] M Q ↔ zT L 109 108 [l0, l1, l2, l3] [] M Q := zT_nx rfl
set_option maxRecDepth 100000 in
theorem q109_33_1 {L : Nat} {l0 l1 l2 l3 : Value} {M : za_M} {Q : Int32 → za_M → Prop} : zT L 109 33 [l0, l1, l2, l3] [.int (nI 1)] M Q ↔ zT L 109 161 [l0, l1, l2, l3] [] M Q := zT_nx rfl
set_option maxRecDepth 100000 in
theorem q109_33_2 {L : Nat} {l0 l1 l2 l3 : Value} {M : za_M} {Q : Int32 → za_M → Prop} : zT L 109 33 [l0, l1, l2, l3] [.int (nI 2)] M Q ↔ zT L 109 174 [l0, l1, l2, l3] [] M Q := zT_nx rfl
set_option maxRecDepth 100000 in
theorem q109_33_3 {L : Nat} {l0 l1 l2 l3 : Value} {M : za_M} {Q : Int32 → za_M → Prop} : zT L 109 33 [l0, l1, l2, l3] [.int (nI 3)] M Q ↔ zT L 109 187 [l0, l1, l2, l3] [] M Q := zT_nx rfl
set_option maxRecDepth 100000 in
theorem q109_33_4 {L : Nat} {l0 l1 l2 l3 : Value} {M : za_M} {Q : Int32 → za_M → Prop} : zT L 109 33 [l0, l1, l2, l3] [.int (nI 4)] M Q ↔ zT L 109 210 [l0, l1, l2, l3] [] M Q := zT_nx rfl
set_option maxRecDepth 100000 in
theorem q109_33_5 {L : Nat} {l0 l1 l2 l3 : Value} {M : za_M} {Q : Int32 → za_M → Prop} : zT L 109 33 [l0, l1, l2, l3] [.int (nI 5)] M Q ↔ zT L 109 253 [l0, l1, l2, l3] [] M Q := zT_nx rfl
set_option maxRecDepth 100000 in
theorem q109_33_6 {L : Nat} {l0 l1 l2 l3 : Value} {M : za_M} {Q : Int32 → za_M → Prop} : zT L 109 33 [l0, l1, l2, l3] [.int (nI 6)] M Q ↔ zT L 109 286 [l0, l1, l2, l3] [] M Q := zT_nx rfl
set_option maxRecDepth 100000 in
theorem q109_33_7 {L : Nat} {l0 l1 l2 l3 : Value} {M : za_M} {Q : Int32 → za_M → Prop} : zT L 109 33 [l0, l1, l2, l3] [.int (nI 7)] M Q ↔ zT L 109 299 [l0, l1, l2, l3] [] M Q := zT_nx rfl
set_option maxRecDepth 100000 in
theorem q109_33_8 {L : Nat} {l0 l1 l2 l3 : Value} {M : za_M} {Q : Int32 → za_M → Prop} : zT L 109 33 [l0, l1, l2, l3] [.int (nI 8)] M Q ↔ zT L 109 322 [l0, l1, l2, l3] [] M Q := zT_nx rfl
set_option maxRecDepth 100000 in
theorem q109_33_9 {L : Nat} {l0 l1 l2 l3 : Value} {M : za_M} {Q : Int32 → za_M → Prop} : zT L 109 33 [l0, l1, l2, l3] [.int (nI 9)] M Q ↔ zT L 109 345 [l0, l1, l2, l3] [] M Q := zT_nx rfl
set_option maxRecDepth 100000 in
theorem q109_33_10 {L : Nat} {l0 l1 l2 l3 : Value} {M : za_M} {Q : Int32 → za_M → Prop} : zT L 109 33 [l0, l1, l2, l3] [.int (nI 10)] M Q ↔ zT L 109 378 [l0, l1, l2, l3] [] M Q := zT_nx rfl
set_option maxRecDepth 100000 in
theorem q109_33_11 {L : Nat} {l0 l1 l2 l3 : Value} {M : za_M} {Q : Int32 → za_M → Prop} : zT L 109 33 [l0, l1, l2, l3] [.int (nI 11)] M Q ↔ zT L 109 411 [l0, l1, l2, l3] [] M Q := zT_nx rfl
set_option maxRecDepth 100000 in
theorem q109_33_12 {L : Nat} {l0 l1 l2 l3 : Value} {M : za_M} {Q : Int32 → za_M → Prop} : zT L 109 33 [l0, l1, l2, l3] [.int (nI 12)] M Q ↔ zT L 109 460 [l0, l1, l2, l3] [] M Q := zT_nx rfl
set_option maxRecDepth 100000 in
theorem q109_33_13 {L : Nat} {l0 l1 l2 l3 : Value} {M : za_M} {Q : Int32 → za_M → Prop} : zT L 109 33 [l0, l1, l2, l3] [.int (nI 13)] M Q ↔ zT L 109 551 [l0, l1, l2, l3] [] M Q := zT_nx rfl
set_option maxRecDepth 100000 in
theorem q109_33_14 {L : Nat} {l0 l1 l2 l3 : Value} {M : za_M} {Q : Int32 → za_M → Prop} : zT L 109 33 [l0, l1, l2, l3] [.int (nI 14)] M Q ↔ zT L 109 564 [l0, l1, l2, l3] [] M Q := zT_nx rfl
set_option maxRecDepth 100000 in
theorem q109_33_d {L : Nat} {l0 l1 l2 l3 : Value} {M : za_M} {Q : Int32 → za_M → Prop} {x : Int32} (h : x.toInt < 0 ∨ 14 < x.toInt) : zT L 109 33 [l0, l1, l2, l3] [.int x] M Q ↔ zT L 109 587 [l0, l1, l2, l3] [] M Q := zT_nx (za_swo h rfl rfl)
set_option maxRecDepth 100000 in
theorem q109_108 {L : Nat} {l0 l2 l3 : Value} {x : Nat} {M : za_M} {Q : Int32 → za_M → Prop} : zT L 109 108 [l0, .ref x, l2, l3] [] M Q ↔ zT L 109 109 [l0, .ref x, l2, l3] [.ref x] M Q := zT_nx rfl
set_option maxRecDepth 100000 in
theorem q109_109 {L : Nat} {l1 l2 l3 s0 : Value} {x : Nat} {M : za_M} {Q : Int32 → za_M → Prop} : zT L 109 109 [.ref x, l1, l2, l3] [s0] M Q ↔ zT L 109 110 [.ref x, l1, l2, l3] [.ref x, s0] M Q := zT_nx rfl
set_option maxRecDepth 100000 in
theorem q109_110 {L : Nat} {l0 l1 l2 s0 s1 : Value} {x : Int32} {M : za_M} {Q : Int32 → za_M → Prop} : zT L 109 110 [l0, l1, l2, .int x] [s0, s1] M Q ↔ zT L 109 111 [l0, l1, l2, .int x] [.int x, s0, s1] M Q := zT_nx rfl
set_option maxRecDepth 100000 in
theorem q109_111 {L : Nat} {l0 l1 l2 l3 s0 s1 s2 : Value} {M : za_M} {Q : Int32 → za_M → Prop} : zT L 109 111 [l0, l1, l2, l3] [s0, s1, s2] M Q ↔ zT L 109 112 [l0, l1, l2, l3] [.int (nI 1), s0, s1, s2] M Q := zT_nx rfl
set_option maxRecDepth 100000 in
theorem q109_112 {L : Nat} {l0 l1 l2 l3 s2 s3 : Value} {a b : Int32} {M : za_M} {Q : Int32 → za_M → Prop} : zT L 109 112 [l0, l1, l2, l3] [.int b, .int a, s2, s3] M Q ↔ zT L 109 113 [l0, l1, l2, l3] [.int (a + b), s2, s3] M Q := zT_nx rfl
set_option maxRecDepth 100000 in
theorem q109_113 {L : Nat} {l0 l1 l2 l3 s2 : Value} {i : Int32} {a : Nat} {M : za_M} {Q : Int32 → za_M → Prop} : zT L 109 113 [l0, l1, l2, l3] [.int i, .ref a, s2] M Q ↔ (za_in L a false i ∧ zT L 109 114 [l0, l1, l2, l3] [.int (M a i.toNatClampNeg), s2] M Q) := zT_ld rfl
set_option maxRecDepth 100000 in
theorem q109_114 {L : Nat} {l1 l2 l3 s0 s1 : Value} {x : Nat} {M : za_M} {Q : Int32 → za_M → Prop} : zT L 109 114 [.ref x, l1, l2, l3] [s0, s1] M Q ↔ zT L 109 115 [.ref x, l1, l2, l3] [.ref x, s0, s1] M Q := zT_nx rfl
set_option maxRecDepth 100000 in
theorem q109_115 {L : Nat} {l0 l1 l2 s0 s1 s2 : Value} {x : Int32} {M : za_M} {Q : Int32 → za_M → Prop} : zT L 109 115 [l0, l1, l2, .int x] [s0, s1, s2] M Q ↔ zT L 109 116 [l0, l1, l2, .int x] [.int x, s0, s1, s2] M Q := zT_nx rfl
set_option maxRecDepth 100000 in
theorem q109_116 {L : Nat} {l0 l1 l2 l3 s0 s1 s2 s3 : Value} {M : za_M} {Q : Int32 → za_M → Prop} : zT L 109 116 [l0, l1, l2, l3] [s0, s1, s2, s3] M Q ↔ zT L 109 117 [l0, l1, l2, l3] [.int (nI 2), s0, s1, s2, s3] M Q := zT_nx rfl
set_option maxRecDepth 100000 in
theorem q109_117 {L : Nat} {l0 l1 l2 l3 s2 s3 s4 : Value} {a b : Int32} {M : za_M} {Q : Int32 → za_M → Prop} : zT L 109 117 [l0, l1, l2, l3] [.int b, .int a, s2, s3, s4] M Q ↔ zT L 109 118 [l0, l1, l2, l3] [.int (a + b), s2, s3, s4] M Q := zT_nx rfl
set_option maxRecDepth 100000 in
theorem q109_118 {L : Nat} {l0 l1 l2 l3 s2 s3 : Value} {i : Int32} {a : Nat} {M : za_M} {Q : Int32 → za_M → Prop} : zT L 109 118 [l0, l1, l2, l3] [.int i, .ref a, s2, s3] M Q ↔ (za_in L a false i ∧ zT L 109 119 [l0, l1, l2, l3] [.int (M a i.toNatClampNeg), s2, s3] M Q) := zT_ld rfl
set_option maxRecDepth 100000 in
theorem q109_119 {L : Nat} {l1 l2 l3 s0 s1 s2 : Value} {x : Nat} {M : za_M} {Q : Int32 → za_M → Prop} : zT L 109 119 [.ref x, l1, l2, l3] [s0, s1, s2] M Q ↔ zT L 109 120 [.ref x, l1, l2, l3] [.ref x, s0, s1, s2] M Q := zT_nx rfl
set_option maxRecDepth 100000 in
theorem q109_120 {L : Nat} {l0 l1 l2 s0 s1 s2 s3 : Value} {x : Int32} {M : za_M} {Q : Int32 → za_M → Prop} : zT L 109 120 [l0, l1, l2, .int x] [s0, s1, s2, s3] M Q ↔ zT L 109 121 [l0, l1, l2, .int x] [.int x, s0, s1, s2, s3] M Q := zT_nx rfl
set_option maxRecDepth 100000 in
theorem q109_121 {L : Nat} {l0 l1 l2 l3 s0 s1 s2 s3 s4 : Value} {M : za_M} {Q : Int32 → za_M → Prop} : zT L 109 121 [l0, l1, l2, l3] [s0, s1, s2, s3, s4] M Q ↔ zT L 109 122 [l0, l1, l2, l3] [.int (nI 3), s0, s1, s2, s3, s4] M Q := zT_nx rfl
set_option maxRecDepth 100000 in
theorem q109_122 {L : Nat} {l0 l1 l2 l3 s2 s3 s4 s5 : Value} {a b : Int32} {M : za_M} {Q : Int32 → za_M → Prop} : zT L 109 122 [l0, l1, l2, l3] [.int b, .int a, s2, s3, s4, s5] M Q ↔ zT L 109 123 [l0, l1, l2, l3] [.int (a + b), s2, s3, s4, s5] M Q := zT_nx rfl
set_option maxRecDepth 100000 in
theorem q109_123 {L : Nat} {l0 l1 l2 l3 s2 s3 s4 : Value} {i : Int32} {a : Nat} {M : za_M} {Q : Int32 → za_M → Prop} : zT L 109 123 [l0, l1, l2, l3] [.int i, .ref a, s2, s3, s4] M Q ↔ (za_in L a false i ∧ zT L 109 124 [l0, l1, l2, l3] [.int (M a i.toNatClampNeg), s2, s3, s4] M Q) := zT_ld rfl
set_option maxRecDepth 100000 in
theorem q109_124 {L : Nat} {l1 l2 l3 s0 s1 s2 s3 : Value} {x : Nat} {M : za_M} {Q : Int32 → za_M → Prop} : zT L 109 124 [.ref x, l1, l2, l3] [s0, s1, s2, s3] M Q ↔ zT L 109 125 [.ref x, l1, l2, l3] [.ref x, s0, s1, s2, s3] M Q := zT_nx rfl
set_option maxRecDepth 100000 in
theorem q109_125 {L : Nat} {l0 l1 l2 s0 s1 s2 s3 s4 : Value} {x : Int32} {M : za_M} {Q : Int32 → za_M → Prop} : zT L 109 125 [l0, l1, l2, .int x] [s0, s1, s2, s3, s4] M Q ↔ zT L 109 126 [l0, l1, l2, .int x] [.int x, s0, s1, s2, s3, s4] M Q := zT_nx rfl
set_option maxRecDepth 100000 in
theorem q109_126 {L : Nat} {l0 l1 l2 l3 s0 s1 s2 s3 s4 s5 : Value} {M : za_M} {Q : Int32 → za_M → Prop} : zT L 109 126 [l0, l1, l2, l3] [s0, s1, s2, s3, s4, s5] M Q ↔ zT L 109 127 [l0, l1, l2, l3] [.int (nI 4), s0, s1, s2, s3, s4, s5] M Q := zT_nx rfl
set_option maxRecDepth 100000 in
theorem q109_127 {L : Nat} {l0 l1 l2 l3 s2 s3 s4 s5 s6 : Value} {a b : Int32} {M : za_M} {Q : Int32 → za_M → Prop} : zT L 109 127 [l0, l1, l2, l3] [.int b, .int a, s2, s3, s4, s5, s6] M Q ↔ zT L 109 128 [l0, l1, l2, l3] [.int (a + b), s2, s3, s4, s5, s6] M Q := zT_nx rfl
set_option maxRecDepth 100000 in
theorem q109_128 {L : Nat} {l0 l1 l2 l3 s2 s3 s4 s5 : Value} {i : Int32} {a : Nat} {M : za_M} {Q : Int32 → za_M → Prop} : zT L 109 128 [l0, l1, l2, l3] [.int i, .ref a, s2, s3, s4, s5] M Q ↔ (za_in L a false i ∧ zT L 109 129 [l0, l1, l2, l3] [.int (M a i.toNatClampNeg), s2, s3, s4, s5] M Q) := zT_ld rfl
set_option maxRecDepth 100000 in
theorem q109_129 {L : Nat} {l0 l1 l2 l3 : Value} {a0 a1 a2 a3 : Value} {M : za_M} {Q : Int32 → za_M → Prop} : zT L 109 129 [l0, l1, l2, l3] [a3, a2, a1, a0, .ref 0] M Q ↔ zT L 55 0 [.ref 0, a0, a1, a2, a3] [] M (fun r M1 => zT L 109 132 [l0, l1, l2, l3] [.int r] M1 Q) := zT_c1 rfl (by decide) rfl
set_option maxRecDepth 100000 in
theorem q109_132 {L : Nat} {l0 l1 l3 s0 : Value} {x : Nat} {M : za_M} {Q : Int32 → za_M → Prop} : zT L 109 132 [l0, l1, .ref x, l3] [s0] M Q ↔ zT L 109 133 [l0, l1, .ref x, l3] [.ref x, s0] M Q := zT_nx rfl
set_option maxRecDepth 100000 in
theorem q109_133 {L : Nat} {l1 l2 l3 s0 s1 : Value} {x : Nat} {M : za_M} {Q : Int32 → za_M → Prop} : zT L 109 133 [.ref x, l1, l2, l3] [s0, s1] M Q ↔ zT L 109 134 [.ref x, l1, l2, l3] [.ref x, s0, s1] M Q := zT_nx rfl
set_option maxRecDepth 100000 in
theorem q109_134 {L : Nat} {l0 l1 l2 s0 s1 s2 : Value} {x : Int32} {M : za_M} {Q : Int32 → za_M → Prop} : zT L 109 134 [l0, l1, l2, .int x] [s0, s1, s2] M Q ↔ zT L 109 135 [l0, l1, l2, .int x] [.int x, s0, s1, s2] M Q := zT_nx rfl
set_option maxRecDepth 100000 in
theorem q109_135 {L : Nat} {l0 l1 l2 l3 s0 s1 s2 s3 : Value} {M : za_M} {Q : Int32 → za_M → Prop} : zT L 109 135 [l0, l1, l2, l3] [s0, s1, s2, s3] M Q ↔ zT L 109 136 [l0, l1, l2, l3] [.int (nI 1), s0, s1, s2, s3] M Q := zT_nx rfl
set_option maxRecDepth 100000 in
theorem q109_136 {L : Nat} {l0 l1 l2 l3 s2 s3 s4 : Value} {a b : Int32} {M : za_M} {Q : Int32 → za_M → Prop} : zT L 109 136 [l0, l1, l2, l3] [.int b, .int a, s2, s3, s4] M Q ↔ zT L 109 137 [l0, l1, l2, l3] [.int (a + b), s2, s3, s4] M Q := zT_nx rfl
set_option maxRecDepth 100000 in
theorem q109_137 {L : Nat} {l0 l1 l2 l3 s2 s3 : Value} {i : Int32} {a : Nat} {M : za_M} {Q : Int32 → za_M → Prop} : zT L 109 137 [l0, l1, l2, l3] [.int i, .ref a, s2, s3] M Q ↔ (za_in L a false i ∧ zT L 109 138 [l0, l1, l2, l3] [.int (M a i.toNatClampNeg), s2, s3] M Q) := zT_ld rfl
set_option maxRecDepth 100000 in
theorem q109_138 {L : Nat} {l1 l2 l3 s0 s1 s2 : Value} {x : Nat} {M : za_M} {Q : Int32 → za_M → Prop} : zT L 109 138 [.ref x, l1, l2, l3] [s0, s1, s2] M Q ↔ zT L 109 139 [.ref x, l1, l2, l3] [.ref x, s0, s1, s2] M Q := zT_nx rfl
set_option maxRecDepth 100000 in
theorem q109_139 {L : Nat} {l0 l1 l2 s0 s1 s2 s3 : Value} {x : Int32} {M : za_M} {Q : Int32 → za_M → Prop} : zT L 109 139 [l0, l1, l2, .int x] [s0, s1, s2, s3] M Q ↔ zT L 109 140 [l0, l1, l2, .int x] [.int x, s0, s1, s2, s3] M Q := zT_nx rfl
set_option maxRecDepth 100000 in
theorem q109_140 {L : Nat} {l0 l1 l2 l3 s0 s1 s2 s3 s4 : Value} {M : za_M} {Q : Int32 → za_M → Prop} : zT L 109 140 [l0, l1, l2, l3] [s0, s1, s2, s3, s4] M Q ↔ zT L 109 141 [l0, l1, l2, l3] [.int (nI 2), s0, s1, s2, s3, s4] M Q := zT_nx rfl
set_option maxRecDepth 100000 in
theorem q109_141 {L : Nat} {l0 l1 l2 l3 s2 s3 s4 s5 : Value} {a b : Int32} {M : za_M} {Q : Int32 → za_M → Prop} : zT L 109 141 [l0, l1, l2, l3] [.int b, .int a, s2, s3, s4, s5] M Q ↔ zT L 109 142 [l0, l1, l2, l3] [.int (a + b), s2, s3, s4, s5] M Q := zT_nx rfl
set_option maxRecDepth 100000 in
theorem q109_142 {L : Nat} {l0 l1 l2 l3 s2 s3 s4 : Value} {i : Int32} {a : Nat} {M : za_M} {Q : Int32 → za_M → Prop} : zT L 109 142 [l0, l1, l2, l3] [.int i, .ref a, s2, s3, s4] M Q ↔ (za_in L a false i ∧ zT L 109 143 [l0, l1, l2, l3] [.int (M a i.toNatClampNeg), s2, s3, s4] M Q) := zT_ld rfl
set_option maxRecDepth 100000 in
theorem q109_143 {L : Nat} {l1 l2 l3 s0 s1 s2 s3 : Value} {x : Nat} {M : za_M} {Q : Int32 → za_M → Prop} : zT L 109 143 [.ref x, l1, l2, l3] [s0, s1, s2, s3] M Q ↔ zT L 109 144 [.ref x, l1, l2, l3] [.ref x, s0, s1, s2, s3] M Q := zT_nx rfl
set_option maxRecDepth 100000 in
theorem q109_144 {L : Nat} {l0 l1 l2 s0 s1 s2 s3 s4 : Value} {x : Int32} {M : za_M} {Q : Int32 → za_M → Prop} : zT L 109 144 [l0, l1, l2, .int x] [s0, s1, s2, s3, s4] M Q ↔ zT L 109 145 [l0, l1, l2, .int x] [.int x, s0, s1, s2, s3, s4] M Q := zT_nx rfl
set_option maxRecDepth 100000 in
theorem q109_145 {L : Nat} {l0 l1 l2 l3 s0 s1 s2 s3 s4 s5 : Value} {M : za_M} {Q : Int32 → za_M → Prop} : zT L 109 145 [l0, l1, l2, l3] [s0, s1, s2, s3, s4, s5] M Q ↔ zT L 109 146 [l0, l1, l2, l3] [.int (nI 3), s0, s1, s2, s3, s4, s5] M Q := zT_nx rfl
set_option maxRecDepth 100000 in
theorem q109_146 {L : Nat} {l0 l1 l2 l3 s2 s3 s4 s5 s6 : Value} {a b : Int32} {M : za_M} {Q : Int32 → za_M → Prop} : zT L 109 146 [l0, l1, l2, l3] [.int b, .int a, s2, s3, s4, s5, s6] M Q ↔ zT L 109 147 [l0, l1, l2, l3] [.int (a + b), s2, s3, s4, s5, s6] M Q := zT_nx rfl
set_option maxRecDepth 100000 in
theorem q109_147 {L : Nat} {l0 l1 l2 l3 s2 s3 s4 s5 : Value} {i : Int32} {a : Nat} {M : za_M} {Q : Int32 → za_M → Prop} : zT L 109 147 [l0, l1, l2, l3] [.int i, .ref a, s2, s3, s4, s5] M Q ↔ (za_in L a false i ∧ zT L 109 148 [l0, l1, l2, l3] [.int (M a i.toNatClampNeg), s2, s3, s4, s5] M Q) := zT_ld rfl
set_option maxRecDepth 100000 in
theorem q109_148 {L : Nat} {l1 l2 l3 s0 s1 s2 s3 s4 : Value} {x : Nat} {M : za_M} {Q : Int32 → za_M → Prop} : zT L 109 148 [.ref x, l1, l2, l3] [s0, s1, s2, s3, s4] M Q ↔ zT L 109 149 [.ref x, l1, l2, l3] [.ref x, s0, s1, s2, s3, s4] M Q := zT_nx rfl
set_option maxRecDepth 100000 in
theorem q109_149 {L : Nat} {l0 l1 l2 s0 s1 s2 s3 s4 s5 : Value} {x : Int32} {M : za_M} {Q : Int32 → za_M → Prop} : zT L 109 149 [l0, l1, l2, .int x] [s0, s1, s2, s3, s4, s5] M Q ↔ zT L 109 150 [l0, l1, l2, .int x] [.int x, s0, s1, s2, s3, s4, s5] M Q := zT_nx rfl
set_option maxRecDepth 100000 in
theorem q109_150 {L : Nat} {l0 l1 l2 l3 s0 s1 s2 s3 s4 s5 s6 : Value} {M : za_M} {Q : Int32 → za_M → Prop} : zT L 109 150 [l0, l1, l2, l3] [s0, s1, s2, s3, s4, s5, s6] M Q ↔ zT L 109 151 [l0, l1, l2, l3] [.int (nI 4), s0, s1, s2, s3, s4, s5, s6] M Q := zT_nx rfl
set_option maxRecDepth 100000 in
theorem q109_151 {L : Nat} {l0 l1 l2 l3 s2 s3 s4 s5 s6 s7 : Value} {a b : Int32} {M : za_M} {Q : Int32 → za_M → Prop} : zT L 109 151 [l0, l1, l2, l3] [.int b, .int a, s2, s3, s4, s5, s6, s7] M Q ↔ zT L 109 152 [l0, l1, l2, l3] [.int (a + b), s2, s3, s4, s5, s6, s7] M Q := zT_nx rfl
set_option maxRecDepth 100000 in
theorem q109_152 {L : Nat} {l0 l1 l2 l3 s2 s3 s4 s5 s6 : Value} {i : Int32} {a : Nat} {M : za_M} {Q : Int32 → za_M → Prop} : zT L 109 152 [l0, l1, l2, l3] [.int i, .ref a, s2, s3, s4, s5, s6] M Q ↔ (za_in L a false i ∧ zT L 109 153 [l0, l1, l2, l3] [.int (M a i.toNatClampNeg), s2, s3, s4, s5, s6] M Q) := zT_ld rfl
set_option maxRecDepth 100000 in
theorem q109_153 {L : Nat} {l0 l1 l2 l3 s5 : Value} {a0 a1 a2 a3 : Value} {M : za_M} {Q : Int32 → za_M → Prop} : zT L 109 153 [l0, l1, l2, l3] [a3, a2, a1, a0, .ref 26, s5] M Q ↔ zT L 80 0 [.ref 26, a0, a1, a2, a3] [] M (fun r M1 => zT L 109 156 [l0, l1, l2, l3] [.int r, s5] M1 Q) := zT_c1 rfl (by decide) rfl
set_option maxRecDepth 100000 in
theorem q109_156 {L : Nat} {l0 l1 l2 l3 : Value} {a b : Int32} {M : za_M} {Q : Int32 → za_M → Prop} : zT L 109 156 [l0, l1, l2, l3] [.int b, .int a] M Q ↔ (if a = b then zT L 109 587 [l0, l1, l2, l3] [] M Q else zT L 109 159 [l0, l1, l2, l3] [] M Q) := zT_if rfl
set_option maxRecDepth 100000 in
theorem q109_159 {L : Nat} {l0 l1 l2 l3 : Value} {M : za_M} {Q : Int32 → za_M → Prop} : zT L 109 159 [l0, l1, l2, l3] [] M Q ↔ zT L 109 160 [l0, l1, l2, l3] [.int (nI 0)] M Q := zT_nx rfl
set_option maxRecDepth 100000 in
theorem q109_160 {L : Nat} {l0 l1 l2 l3 : Value} {x : Int32} {M : za_M} {Q : Int32 → za_M → Prop} : zT L 109 160 [l0, l1, l2, l3] [.int x] M Q ↔ ((x = 0 ∨ x = 1) ∧ Q x M) := zT_rb rfl rfl
set_option maxRecDepth 100000 in
theorem q109_161 {L : Nat} {l0 l2 l3 : Value} {x : Nat} {M : za_M} {Q : Int32 → za_M → Prop} : zT L 109 161 [l0, .ref x, l2, l3] [] M Q ↔ zT L 109 162 [l0, .ref x, l2, l3] [.ref x] M Q := zT_nx rfl
set_option maxRecDepth 100000 in
theorem q109_162 {L : Nat} {l0 l1 l2 l3 : Value} {M : za_M} {Q : Int32 → za_M → Prop} : zT L 109 162 [l0, l1, l2, l3] [.ref 0] M Q ↔ zT L 56 0 [.ref 0] [] M (fun r M1 => zT L 109 165 [l0, l1, l2, l3] [.int r] M1 Q) := zT_c1 rfl (by decide) rfl
set_option maxRecDepth 100000 in
theorem q109_165 {L : Nat} {l0 l1 l3 s0 : Value} {x : Nat} {M : za_M} {Q : Int32 → za_M → Prop} : zT L 109 165 [l0, l1, .ref x, l3] [s0] M Q ↔ zT L 109 166 [l0, l1, .ref x, l3] [.ref x, s0] M Q := zT_nx rfl
set_option maxRecDepth 100000 in
theorem q109_166 {L : Nat} {l0 l1 l2 l3 s1 : Value} {M : za_M} {Q : Int32 → za_M → Prop} : zT L 109 166 [l0, l1, l2, l3] [.ref 26, s1] M Q ↔ zT L 81 0 [.ref 26, .null] [] M (fun r M1 => zT L 109 169 [l0, l1, l2, l3] [.int r, s1] M1 Q) := zT_c1 rfl (by decide) rfl
set_option maxRecDepth 100000 in
theorem q109_169 {L : Nat} {l0 l1 l2 l3 : Value} {a b : Int32} {M : za_M} {Q : Int32 → za_M → Prop} : zT L 109 169 [l0, l1, l2, l3] [.int b, .int a] M Q ↔ (if a = b then zT L 109 587 [l0, l1, l2, l3] [] M Q else zT L 109 172 [l0, l1, l2, l3] [] M Q) := zT_if rfl
set_option maxRecDepth 100000 in
theorem q109_172 {L : Nat} {l0 l1 l2 l3 : Value} {M : za_M} {Q : Int32 → za_M → Prop} : zT L 109 172 [l0, l1, l2, l3] [] M Q ↔ zT L 109 173 [l0, l1, l2, l3] [.int (nI 0)] M Q := zT_nx rfl
set_option maxRecDepth 100000 in
theorem q109_173 {L : Nat} {l0 l1 l2 l3 : Value} {x : Int32} {M : za_M} {Q : Int32 → za_M → Prop} : zT L 109 173 [l0, l1, l2, l3] [.int x] M Q ↔ ((x = 0 ∨ x = 1) ∧ Q x M) := zT_rb rfl rfl
set_option maxRecDepth 100000 in
theorem q109_174 {L : Nat} {l0 l2 l3 : Value} {x : Nat} {M : za_M} {Q : Int32 → za_M → Prop} : zT L 109 174 [l0, .ref x, l2, l3] [] M Q ↔ zT L 109 175 [l0, .ref x, l2, l3] [.ref x] M Q := zT_nx rfl
set_option maxRecDepth 100000 in
theorem q109_175 {L : Nat} {l0 l1 l2 l3 : Value} {M : za_M} {Q : Int32 → za_M → Prop} : zT L 109 175 [l0, l1, l2, l3] [.ref 0] M Q ↔ zT L 57 0 [.ref 0] [] M (fun r M1 => zT L 109 178 [l0, l1, l2, l3] [.int r] M1 Q) := zT_c1 rfl (by decide) rfl
set_option maxRecDepth 100000 in
theorem q109_178 {L : Nat} {l0 l1 l3 s0 : Value} {x : Nat} {M : za_M} {Q : Int32 → za_M → Prop} : zT L 109 178 [l0, l1, .ref x, l3] [s0] M Q ↔ zT L 109 179 [l0, l1, .ref x, l3] [.ref x, s0] M Q := zT_nx rfl
set_option maxRecDepth 100000 in
theorem q109_179 {L : Nat} {l0 l1 l2 l3 s1 : Value} {M : za_M} {Q : Int32 → za_M → Prop} : zT L 109 179 [l0, l1, l2, l3] [.ref 26, s1] M Q ↔ zT L 82 0 [.ref 26, .null, .null] [] M (fun r M1 => zT L 109 182 [l0, l1, l2, l3] [.int r, s1] M1 Q) := zT_c1 rfl (by decide) rfl
set_option maxRecDepth 100000 in
theorem q109_182 {L : Nat} {l0 l1 l2 l3 : Value} {a b : Int32} {M : za_M} {Q : Int32 → za_M → Prop} : zT L 109 182 [l0, l1, l2, l3] [.int b, .int a] M Q ↔ (if a = b then zT L 109 587 [l0, l1, l2, l3] [] M Q else zT L 109 185 [l0, l1, l2, l3] [] M Q) := zT_if rfl
set_option maxRecDepth 100000 in
theorem q109_185 {L : Nat} {l0 l1 l2 l3 : Value} {M : za_M} {Q : Int32 → za_M → Prop} : zT L 109 185 [l0, l1, l2, l3] [] M Q ↔ zT L 109 186 [l0, l1, l2, l3] [.int (nI 0)] M Q := zT_nx rfl
set_option maxRecDepth 100000 in
theorem q109_186 {L : Nat} {l0 l1 l2 l3 : Value} {x : Int32} {M : za_M} {Q : Int32 → za_M → Prop} : zT L 109 186 [l0, l1, l2, l3] [.int x] M Q ↔ ((x = 0 ∨ x = 1) ∧ Q x M) := zT_rb rfl rfl
set_option maxRecDepth 100000 in
theorem q109_187 {L : Nat} {l0 l2 l3 : Value} {x : Nat} {M : za_M} {Q : Int32 → za_M → Prop} : zT L 109 187 [l0, .ref x, l2, l3] [] M Q ↔ zT L 109 188 [l0, .ref x, l2, l3] [.ref x] M Q := zT_nx rfl
set_option maxRecDepth 100000 in
theorem q109_188 {L : Nat} {l1 l2 l3 s0 : Value} {x : Nat} {M : za_M} {Q : Int32 → za_M → Prop} : zT L 109 188 [.ref x, l1, l2, l3] [s0] M Q ↔ zT L 109 189 [.ref x, l1, l2, l3] [.ref x, s0] M Q := zT_nx rfl
set_option maxRecDepth 100000 in
theorem q109_189 {L : Nat} {l0 l1 l2 s0 s1 : Value} {x : Int32} {M : za_M} {Q : Int32 → za_M → Prop} : zT L 109 189 [l0, l1, l2, .int x] [s0, s1] M Q ↔ zT L 109 190 [l0, l1, l2, .int x] [.int x, s0, s1] M Q := zT_nx rfl
set_option maxRecDepth 100000 in
theorem q109_190 {L : Nat} {l0 l1 l2 l3 s0 s1 s2 : Value} {M : za_M} {Q : Int32 → za_M → Prop} : zT L 109 190 [l0, l1, l2, l3] [s0, s1, s2] M Q ↔ zT L 109 191 [l0, l1, l2, l3] [.int (nI 1), s0, s1, s2] M Q := zT_nx rfl
set_option maxRecDepth 100000 in
theorem q109_191 {L : Nat} {l0 l1 l2 l3 s2 s3 : Value} {a b : Int32} {M : za_M} {Q : Int32 → za_M → Prop} : zT L 109 191 [l0, l1, l2, l3] [.int b, .int a, s2, s3] M Q ↔ zT L 109 192 [l0, l1, l2, l3] [.int (a + b), s2, s3] M Q := zT_nx rfl
set_option maxRecDepth 100000 in
theorem q109_192 {L : Nat} {l0 l1 l2 l3 s2 : Value} {i : Int32} {a : Nat} {M : za_M} {Q : Int32 → za_M → Prop} : zT L 109 192 [l0, l1, l2, l3] [.int i, .ref a, s2] M Q ↔ (za_in L a false i ∧ zT L 109 193 [l0, l1, l2, l3] [.int (M a i.toNatClampNeg), s2] M Q) := zT_ld rfl
set_option maxRecDepth 100000 in
theorem q109_193 {L : Nat} {l0 l1 l2 l3 : Value} {a0 : Value} {M : za_M} {Q : Int32 → za_M → Prop} : zT L 109 193 [l0, l1, l2, l3] [a0, .ref 0] M Q ↔ zT L 58 0 [.ref 0, a0] [] M (fun r M1 => zT L 109 196 [l0, l1, l2, l3] [.int r] M1 Q) := zT_c1 rfl (by decide) rfl
set_option maxRecDepth 100000 in
theorem q109_196 {L : Nat} {l0 l1 l3 s0 : Value} {x : Nat} {M : za_M} {Q : Int32 → za_M → Prop} : zT L 109 196 [l0, l1, .ref x, l3] [s0] M Q ↔ zT L 109 197 [l0, l1, .ref x, l3] [.ref x, s0] M Q := zT_nx rfl
set_option maxRecDepth 100000 in
theorem q109_197 {L : Nat} {l1 l2 l3 s0 s1 : Value} {x : Nat} {M : za_M} {Q : Int32 → za_M → Prop} : zT L 109 197 [.ref x, l1, l2, l3] [s0, s1] M Q ↔ zT L 109 198 [.ref x, l1, l2, l3] [.ref x, s0, s1] M Q := zT_nx rfl
set_option maxRecDepth 100000 in
theorem q109_198 {L : Nat} {l0 l1 l2 s0 s1 s2 : Value} {x : Int32} {M : za_M} {Q : Int32 → za_M → Prop} : zT L 109 198 [l0, l1, l2, .int x] [s0, s1, s2] M Q ↔ zT L 109 199 [l0, l1, l2, .int x] [.int x, s0, s1, s2] M Q := zT_nx rfl
set_option maxRecDepth 100000 in
theorem q109_199 {L : Nat} {l0 l1 l2 l3 s0 s1 s2 s3 : Value} {M : za_M} {Q : Int32 → za_M → Prop} : zT L 109 199 [l0, l1, l2, l3] [s0, s1, s2, s3] M Q ↔ zT L 109 200 [l0, l1, l2, l3] [.int (nI 1), s0, s1, s2, s3] M Q := zT_nx rfl
set_option maxRecDepth 100000 in
theorem q109_200 {L : Nat} {l0 l1 l2 l3 s2 s3 s4 : Value} {a b : Int32} {M : za_M} {Q : Int32 → za_M → Prop} : zT L 109 200 [l0, l1, l2, l3] [.int b, .int a, s2, s3, s4] M Q ↔ zT L 109 201 [l0, l1, l2, l3] [.int (a + b), s2, s3, s4] M Q := zT_nx rfl
set_option maxRecDepth 100000 in
theorem q109_201 {L : Nat} {l0 l1 l2 l3 s2 s3 : Value} {i : Int32} {a : Nat} {M : za_M} {Q : Int32 → za_M → Prop} : zT L 109 201 [l0, l1, l2, l3] [.int i, .ref a, s2, s3] M Q ↔ (za_in L a false i ∧ zT L 109 202 [l0, l1, l2, l3] [.int (M a i.toNatClampNeg), s2, s3] M Q) := zT_ld rfl
set_option maxRecDepth 100000 in
theorem q109_202 {L : Nat} {l0 l1 l2 l3 s2 : Value} {a0 : Value} {M : za_M} {Q : Int32 → za_M → Prop} : zT L 109 202 [l0, l1, l2, l3] [a0, .ref 26, s2] M Q ↔ zT L 83 0 [.ref 26, a0] [] M (fun r M1 => zT L 109 205 [l0, l1, l2, l3] [.int r, s2] M1 Q) := zT_c1 rfl (by decide) rfl
set_option maxRecDepth 100000 in
theorem q109_205 {L : Nat} {l0 l1 l2 l3 : Value} {a b : Int32} {M : za_M} {Q : Int32 → za_M → Prop} : zT L 109 205 [l0, l1, l2, l3] [.int b, .int a] M Q ↔ (if a = b then zT L 109 587 [l0, l1, l2, l3] [] M Q else zT L 109 208 [l0, l1, l2, l3] [] M Q) := zT_if rfl
set_option maxRecDepth 100000 in
theorem q109_208 {L : Nat} {l0 l1 l2 l3 : Value} {M : za_M} {Q : Int32 → za_M → Prop} : zT L 109 208 [l0, l1, l2, l3] [] M Q ↔ zT L 109 209 [l0, l1, l2, l3] [.int (nI 0)] M Q := zT_nx rfl
set_option maxRecDepth 100000 in
theorem q109_209 {L : Nat} {l0 l1 l2 l3 : Value} {x : Int32} {M : za_M} {Q : Int32 → za_M → Prop} : zT L 109 209 [l0, l1, l2, l3] [.int x] M Q ↔ ((x = 0 ∨ x = 1) ∧ Q x M) := zT_rb rfl rfl
set_option maxRecDepth 100000 in
theorem q109_210 {L : Nat} {l0 l2 l3 : Value} {x : Nat} {M : za_M} {Q : Int32 → za_M → Prop} : zT L 109 210 [l0, .ref x, l2, l3] [] M Q ↔ zT L 109 211 [l0, .ref x, l2, l3] [.ref x] M Q := zT_nx rfl
set_option maxRecDepth 100000 in
theorem q109_211 {L : Nat} {l1 l2 l3 s0 : Value} {x : Nat} {M : za_M} {Q : Int32 → za_M → Prop} : zT L 109 211 [.ref x, l1, l2, l3] [s0] M Q ↔ zT L 109 212 [.ref x, l1, l2, l3] [.ref x, s0] M Q := zT_nx rfl
set_option maxRecDepth 100000 in
theorem q109_212 {L : Nat} {l0 l1 l2 s0 s1 : Value} {x : Int32} {M : za_M} {Q : Int32 → za_M → Prop} : zT L 109 212 [l0, l1, l2, .int x] [s0, s1] M Q ↔ zT L 109 213 [l0, l1, l2, .int x] [.int x, s0, s1] M Q := zT_nx rfl
set_option maxRecDepth 100000 in
theorem q109_213 {L : Nat} {l0 l1 l2 l3 s0 s1 s2 : Value} {M : za_M} {Q : Int32 → za_M → Prop} : zT L 109 213 [l0, l1, l2, l3] [s0, s1, s2] M Q ↔ zT L 109 214 [l0, l1, l2, l3] [.int (nI 1), s0, s1, s2] M Q := zT_nx rfl
set_option maxRecDepth 100000 in
theorem q109_214 {L : Nat} {l0 l1 l2 l3 s2 s3 : Value} {a b : Int32} {M : za_M} {Q : Int32 → za_M → Prop} : zT L 109 214 [l0, l1, l2, l3] [.int b, .int a, s2, s3] M Q ↔ zT L 109 215 [l0, l1, l2, l3] [.int (a + b), s2, s3] M Q := zT_nx rfl
set_option maxRecDepth 100000 in
theorem q109_215 {L : Nat} {l0 l1 l2 l3 s2 : Value} {i : Int32} {a : Nat} {M : za_M} {Q : Int32 → za_M → Prop} : zT L 109 215 [l0, l1, l2, l3] [.int i, .ref a, s2] M Q ↔ (za_in L a false i ∧ zT L 109 216 [l0, l1, l2, l3] [.int (M a i.toNatClampNeg), s2] M Q) := zT_ld rfl
set_option maxRecDepth 100000 in
theorem q109_216 {L : Nat} {l1 l2 l3 s0 s1 : Value} {x : Nat} {M : za_M} {Q : Int32 → za_M → Prop} : zT L 109 216 [.ref x, l1, l2, l3] [s0, s1] M Q ↔ zT L 109 217 [.ref x, l1, l2, l3] [.ref x, s0, s1] M Q := zT_nx rfl
set_option maxRecDepth 100000 in
theorem q109_217 {L : Nat} {l0 l1 l2 s0 s1 s2 : Value} {x : Int32} {M : za_M} {Q : Int32 → za_M → Prop} : zT L 109 217 [l0, l1, l2, .int x] [s0, s1, s2] M Q ↔ zT L 109 218 [l0, l1, l2, .int x] [.int x, s0, s1, s2] M Q := zT_nx rfl
set_option maxRecDepth 100000 in
theorem q109_218 {L : Nat} {l0 l1 l2 l3 s0 s1 s2 s3 : Value} {M : za_M} {Q : Int32 → za_M → Prop} : zT L 109 218 [l0, l1, l2, l3] [s0, s1, s2, s3] M Q ↔ zT L 109 219 [l0, l1, l2, l3] [.int (nI 2), s0, s1, s2, s3] M Q := zT_nx rfl
set_option maxRecDepth 100000 in
theorem q109_219 {L : Nat} {l0 l1 l2 l3 s2 s3 s4 : Value} {a b : Int32} {M : za_M} {Q : Int32 → za_M → Prop} : zT L 109 219 [l0, l1, l2, l3] [.int b, .int a, s2, s3, s4] M Q ↔ zT L 109 220 [l0, l1, l2, l3] [.int (a + b), s2, s3, s4] M Q := zT_nx rfl
set_option maxRecDepth 100000 in
theorem q109_220 {L : Nat} {l0 l1 l2 l3 s2 s3 : Value} {i : Int32} {a : Nat} {M : za_M} {Q : Int32 → za_M → Prop} : zT L 109 220 [l0, l1, l2, l3] [.int i, .ref a, s2, s3] M Q ↔ (za_in L a false i ∧ zT L 109 221 [l0, l1, l2, l3] [.int (M a i.toNatClampNeg), s2, s3] M Q) := zT_ld rfl
set_option maxRecDepth 100000 in
theorem q109_221 {L : Nat} {l1 l2 l3 s0 s1 s2 : Value} {x : Nat} {M : za_M} {Q : Int32 → za_M → Prop} : zT L 109 221 [.ref x, l1, l2, l3] [s0, s1, s2] M Q ↔ zT L 109 222 [.ref x, l1, l2, l3] [.ref x, s0, s1, s2] M Q := zT_nx rfl
set_option maxRecDepth 100000 in
theorem q109_222 {L : Nat} {l0 l1 l2 s0 s1 s2 s3 : Value} {x : Int32} {M : za_M} {Q : Int32 → za_M → Prop} : zT L 109 222 [l0, l1, l2, .int x] [s0, s1, s2, s3] M Q ↔ zT L 109 223 [l0, l1, l2, .int x] [.int x, s0, s1, s2, s3] M Q := zT_nx rfl
set_option maxRecDepth 100000 in
theorem q109_223 {L : Nat} {l0 l1 l2 l3 s0 s1 s2 s3 s4 : Value} {M : za_M} {Q : Int32 → za_M → Prop} : zT L 109 223 [l0, l1, l2, l3] [s0, s1, s2, s3, s4] M Q ↔ zT L 109 224 [l0, l1, l2, l3] [.int (nI 3), s0, s1, s2, s3, s4] M Q := zT_nx rfl
set_option maxRecDepth 100000 in
theorem q109_224 {L : Nat} {l0 l1 l2 l3 s2 s3 s4 s5 : Value} {a b : Int32} {M : za_M} {Q : Int32 → za_M → Prop} : zT L 109 224 [l0, l1, l2, l3] [.int b, .int a, s2, s3, s4, s5] M Q ↔ zT L 109 225 [l0, l1, l2, l3] [.int (a + b), s2, s3, s4, s5] M Q := zT_nx rfl
set_option maxRecDepth 100000 in
theorem q109_225 {L : Nat} {l0 l1 l2 l3 s2 s3 s4 : Value} {i : Int32} {a : Nat} {M : za_M} {Q : Int32 → za_M → Prop} : zT L 109 225 [l0, l1, l2, l3] [.int i, .ref a, s2, s3, s4] M Q ↔ (za_in L a false i ∧ zT L 109 226 [l0, l1, l2, l3] [.int (M a i.toNatClampNeg), s2, s3, s4] M Q) := zT_ld rfl
set_option maxRecDepth 100000 in
theorem q109_226 {L : Nat} {l0 l1 l2 l3 : Value} {a0 a1 a2 : Value} {M : za_M} {Q : Int32 → za_M → Prop} : zT L 109 226 [l0, l1, l2, l3] [a2, a1, a0, .ref 0] M Q ↔ zT L 59 0 [.ref 0, a0, a1, a2] [] M (fun r M1 => zT L 109 229 [l0, l1, l2, l3] [.int r] M1 Q) := zT_c1 rfl (by decide) rfl
set_option maxRecDepth 100000 in
theorem q109_229 {L : Nat} {l0 l1 l3 s0 : Value} {x : Nat} {M : za_M} {Q : Int32 → za_M → Prop} : zT L 109 229 [l0, l1, .ref x, l3] [s0] M Q ↔ zT L 109 230 [l0, l1, .ref x, l3] [.ref x, s0] M Q := zT_nx rfl
set_option maxRecDepth 100000 in
theorem q109_230 {L : Nat} {l1 l2 l3 s0 s1 : Value} {x : Nat} {M : za_M} {Q : Int32 → za_M → Prop} : zT L 109 230 [.ref x, l1, l2, l3] [s0, s1] M Q ↔ zT L 109 231 [.ref x, l1, l2, l3] [.ref x, s0, s1] M Q := zT_nx rfl
set_option maxRecDepth 100000 in
theorem q109_231 {L : Nat} {l0 l1 l2 s0 s1 s2 : Value} {x : Int32} {M : za_M} {Q : Int32 → za_M → Prop} : zT L 109 231 [l0, l1, l2, .int x] [s0, s1, s2] M Q ↔ zT L 109 232 [l0, l1, l2, .int x] [.int x, s0, s1, s2] M Q := zT_nx rfl
set_option maxRecDepth 100000 in
theorem q109_232 {L : Nat} {l0 l1 l2 l3 s0 s1 s2 s3 : Value} {M : za_M} {Q : Int32 → za_M → Prop} : zT L 109 232 [l0, l1, l2, l3] [s0, s1, s2, s3] M Q ↔ zT L 109 233 [l0, l1, l2, l3] [.int (nI 1), s0, s1, s2, s3] M Q := zT_nx rfl
set_option maxRecDepth 100000 in
theorem q109_233 {L : Nat} {l0 l1 l2 l3 s2 s3 s4 : Value} {a b : Int32} {M : za_M} {Q : Int32 → za_M → Prop} : zT L 109 233 [l0, l1, l2, l3] [.int b, .int a, s2, s3, s4] M Q ↔ zT L 109 234 [l0, l1, l2, l3] [.int (a + b), s2, s3, s4] M Q := zT_nx rfl
set_option maxRecDepth 100000 in
theorem q109_234 {L : Nat} {l0 l1 l2 l3 s2 s3 : Value} {i : Int32} {a : Nat} {M : za_M} {Q : Int32 → za_M → Prop} : zT L 109 234 [l0, l1, l2, l3] [.int i, .ref a, s2, s3] M Q ↔ (za_in L a false i ∧ zT L 109 235 [l0, l1, l2, l3] [.int (M a i.toNatClampNeg), s2, s3] M Q) := zT_ld rfl
set_option maxRecDepth 100000 in
theorem q109_235 {L : Nat} {l1 l2 l3 s0 s1 s2 : Value} {x : Nat} {M : za_M} {Q : Int32 → za_M → Prop} : zT L 109 235 [.ref x, l1, l2, l3] [s0, s1, s2] M Q ↔ zT L 109 236 [.ref x, l1, l2, l3] [.ref x, s0, s1, s2] M Q := zT_nx rfl
set_option maxRecDepth 100000 in
theorem q109_236 {L : Nat} {l0 l1 l2 s0 s1 s2 s3 : Value} {x : Int32} {M : za_M} {Q : Int32 → za_M → Prop} : zT L 109 236 [l0, l1, l2, .int x] [s0, s1, s2, s3] M Q ↔ zT L 109 237 [l0, l1, l2, .int x] [.int x, s0, s1, s2, s3] M Q := zT_nx rfl
set_option maxRecDepth 100000 in
theorem q109_237 {L : Nat} {l0 l1 l2 l3 s0 s1 s2 s3 s4 : Value} {M : za_M} {Q : Int32 → za_M → Prop} : zT L 109 237 [l0, l1, l2, l3] [s0, s1, s2, s3, s4] M Q ↔ zT L 109 238 [l0, l1, l2, l3] [.int (nI 2), s0, s1, s2, s3, s4] M Q := zT_nx rfl
set_option maxRecDepth 100000 in
theorem q109_238 {L : Nat} {l0 l1 l2 l3 s2 s3 s4 s5 : Value} {a b : Int32} {M : za_M} {Q : Int32 → za_M → Prop} : zT L 109 238 [l0, l1, l2, l3] [.int b, .int a, s2, s3, s4, s5] M Q ↔ zT L 109 239 [l0, l1, l2, l3] [.int (a + b), s2, s3, s4, s5] M Q := zT_nx rfl
set_option maxRecDepth 100000 in
theorem q109_239 {L : Nat} {l0 l1 l2 l3 s2 s3 s4 : Value} {i : Int32} {a : Nat} {M : za_M} {Q : Int32 → za_M → Prop} : zT L 109 239 [l0, l1, l2, l3] [.int i, .ref a, s2, s3, s4] M Q ↔ (za_in L a false i ∧ zT L 109 240 [l0, l1, l2, l3] [.int (M a i.toNatClampNeg), s2, s3, s4] M Q) := zT_ld rfl
set_option maxRecDepth 100000 in
theorem q109_240 {L : Nat} {l1 l2 l3 s0 s1 s2 s3 : Value} {x : Nat} {M : za_M} {Q : Int32 → za_M → Prop} : zT L 109 240 [.ref x, l1, l2, l3] [s0, s1, s2, s3] M Q ↔ zT L 109 241 [.ref x, l1, l2, l3] [.ref x, s0, s1, s2, s3] M Q := zT_nx rfl
set_option maxRecDepth 100000 in
theorem q109_241 {L : Nat} {l0 l1 l2 s0 s1 s2 s3 s4 : Value} {x : Int32} {M : za_M} {Q : Int32 → za_M → Prop} : zT L 109 241 [l0, l1, l2, .int x] [s0, s1, s2, s3, s4] M Q ↔ zT L 109 242 [l0, l1, l2, .int x] [.int x, s0, s1, s2, s3, s4] M Q := zT_nx rfl
set_option maxRecDepth 100000 in
theorem q109_242 {L : Nat} {l0 l1 l2 l3 s0 s1 s2 s3 s4 s5 : Value} {M : za_M} {Q : Int32 → za_M → Prop} : zT L 109 242 [l0, l1, l2, l3] [s0, s1, s2, s3, s4, s5] M Q ↔ zT L 109 243 [l0, l1, l2, l3] [.int (nI 3), s0, s1, s2, s3, s4, s5] M Q := zT_nx rfl
set_option maxRecDepth 100000 in
theorem q109_243 {L : Nat} {l0 l1 l2 l3 s2 s3 s4 s5 s6 : Value} {a b : Int32} {M : za_M} {Q : Int32 → za_M → Prop} : zT L 109 243 [l0, l1, l2, l3] [.int b, .int a, s2, s3, s4, s5, s6] M Q ↔ zT L 109 244 [l0, l1, l2, l3] [.int (a + b), s2, s3, s4, s5, s6] M Q := zT_nx rfl
set_option maxRecDepth 100000 in
theorem q109_244 {L : Nat} {l0 l1 l2 l3 s2 s3 s4 s5 : Value} {i : Int32} {a : Nat} {M : za_M} {Q : Int32 → za_M → Prop} : zT L 109 244 [l0, l1, l2, l3] [.int i, .ref a, s2, s3, s4, s5] M Q ↔ (za_in L a false i ∧ zT L 109 245 [l0, l1, l2, l3] [.int (M a i.toNatClampNeg), s2, s3, s4, s5] M Q) := zT_ld rfl
set_option maxRecDepth 100000 in
theorem q109_245 {L : Nat} {l0 l1 l2 l3 s4 : Value} {a0 a1 a2 : Value} {M : za_M} {Q : Int32 → za_M → Prop} : zT L 109 245 [l0, l1, l2, l3] [a2, a1, a0, .ref 26, s4] M Q ↔ zT L 84 0 [.ref 26, a0, a1, a2] [] M (fun r M1 => zT L 109 248 [l0, l1, l2, l3] [.int r, s4] M1 Q) := zT_c1 rfl (by decide) rfl
set_option maxRecDepth 100000 in
theorem q109_248 {L : Nat} {l0 l1 l2 l3 : Value} {a b : Int32} {M : za_M} {Q : Int32 → za_M → Prop} : zT L 109 248 [l0, l1, l2, l3] [.int b, .int a] M Q ↔ (if a = b then zT L 109 587 [l0, l1, l2, l3] [] M Q else zT L 109 251 [l0, l1, l2, l3] [] M Q) := zT_if rfl
set_option maxRecDepth 100000 in
theorem q109_251 {L : Nat} {l0 l1 l2 l3 : Value} {M : za_M} {Q : Int32 → za_M → Prop} : zT L 109 251 [l0, l1, l2, l3] [] M Q ↔ zT L 109 252 [l0, l1, l2, l3] [.int (nI 0)] M Q := zT_nx rfl
set_option maxRecDepth 100000 in
theorem q109_252 {L : Nat} {l0 l1 l2 l3 : Value} {x : Int32} {M : za_M} {Q : Int32 → za_M → Prop} : zT L 109 252 [l0, l1, l2, l3] [.int x] M Q ↔ ((x = 0 ∨ x = 1) ∧ Q x M) := zT_rb rfl rfl
set_option maxRecDepth 100000 in
theorem q109_253 {L : Nat} {l0 l2 l3 : Value} {x : Nat} {M : za_M} {Q : Int32 → za_M → Prop} : zT L 109 253 [l0, .ref x, l2, l3] [] M Q ↔ zT L 109 254 [l0, .ref x, l2, l3] [.ref x] M Q := zT_nx rfl
set_option maxRecDepth 100000 in
theorem q109_254 {L : Nat} {l1 l2 l3 s0 : Value} {x : Nat} {M : za_M} {Q : Int32 → za_M → Prop} : zT L 109 254 [.ref x, l1, l2, l3] [s0] M Q ↔ zT L 109 255 [.ref x, l1, l2, l3] [.ref x, s0] M Q := zT_nx rfl
set_option maxRecDepth 100000 in
theorem q109_255 {L : Nat} {l0 l1 l2 s0 s1 : Value} {x : Int32} {M : za_M} {Q : Int32 → za_M → Prop} : zT L 109 255 [l0, l1, l2, .int x] [s0, s1] M Q ↔ zT L 109 256 [l0, l1, l2, .int x] [.int x, s0, s1] M Q := zT_nx rfl
set_option maxRecDepth 100000 in
theorem q109_256 {L : Nat} {l0 l1 l2 l3 s0 s1 s2 : Value} {M : za_M} {Q : Int32 → za_M → Prop} : zT L 109 256 [l0, l1, l2, l3] [s0, s1, s2] M Q ↔ zT L 109 257 [l0, l1, l2, l3] [.int (nI 1), s0, s1, s2] M Q := zT_nx rfl
set_option maxRecDepth 100000 in
theorem q109_257 {L : Nat} {l0 l1 l2 l3 s2 s3 : Value} {a b : Int32} {M : za_M} {Q : Int32 → za_M → Prop} : zT L 109 257 [l0, l1, l2, l3] [.int b, .int a, s2, s3] M Q ↔ zT L 109 258 [l0, l1, l2, l3] [.int (a + b), s2, s3] M Q := zT_nx rfl
set_option maxRecDepth 100000 in
theorem q109_258 {L : Nat} {l0 l1 l2 l3 s2 : Value} {i : Int32} {a : Nat} {M : za_M} {Q : Int32 → za_M → Prop} : zT L 109 258 [l0, l1, l2, l3] [.int i, .ref a, s2] M Q ↔ (za_in L a false i ∧ zT L 109 259 [l0, l1, l2, l3] [.int (M a i.toNatClampNeg), s2] M Q) := zT_ld rfl
set_option maxRecDepth 100000 in
theorem q109_259 {L : Nat} {l1 l2 l3 s0 s1 : Value} {x : Nat} {M : za_M} {Q : Int32 → za_M → Prop} : zT L 109 259 [.ref x, l1, l2, l3] [s0, s1] M Q ↔ zT L 109 260 [.ref x, l1, l2, l3] [.ref x, s0, s1] M Q := zT_nx rfl
set_option maxRecDepth 100000 in
theorem q109_260 {L : Nat} {l0 l1 l2 s0 s1 s2 : Value} {x : Int32} {M : za_M} {Q : Int32 → za_M → Prop} : zT L 109 260 [l0, l1, l2, .int x] [s0, s1, s2] M Q ↔ zT L 109 261 [l0, l1, l2, .int x] [.int x, s0, s1, s2] M Q := zT_nx rfl
set_option maxRecDepth 100000 in
theorem q109_261 {L : Nat} {l0 l1 l2 l3 s0 s1 s2 s3 : Value} {M : za_M} {Q : Int32 → za_M → Prop} : zT L 109 261 [l0, l1, l2, l3] [s0, s1, s2, s3] M Q ↔ zT L 109 262 [l0, l1, l2, l3] [.int (nI 2), s0, s1, s2, s3] M Q := zT_nx rfl
set_option maxRecDepth 100000 in
theorem q109_262 {L : Nat} {l0 l1 l2 l3 s2 s3 s4 : Value} {a b : Int32} {M : za_M} {Q : Int32 → za_M → Prop} : zT L 109 262 [l0, l1, l2, l3] [.int b, .int a, s2, s3, s4] M Q ↔ zT L 109 263 [l0, l1, l2, l3] [.int (a + b), s2, s3, s4] M Q := zT_nx rfl
set_option maxRecDepth 100000 in
theorem q109_263 {L : Nat} {l0 l1 l2 l3 s2 s3 : Value} {i : Int32} {a : Nat} {M : za_M} {Q : Int32 → za_M → Prop} : zT L 109 263 [l0, l1, l2, l3] [.int i, .ref a, s2, s3] M Q ↔ (za_in L a false i ∧ zT L 109 264 [l0, l1, l2, l3] [.int (M a i.toNatClampNeg), s2, s3] M Q) := zT_ld rfl
set_option maxRecDepth 100000 in
theorem q109_264 {L : Nat} {l0 l1 l2 l3 : Value} {a0 a1 : Value} {M : za_M} {Q : Int32 → za_M → Prop} : zT L 109 264 [l0, l1, l2, l3] [a1, a0, .ref 0] M Q ↔ zT L 60 0 [.ref 0, a0, a1] [] M (fun r M1 => zT L 109 267 [l0, l1, l2, l3] [.int r] M1 Q) := zT_c1 rfl (by decide) rfl
set_option maxRecDepth 100000 in
theorem q109_267 {L : Nat} {l0 l1 l3 s0 : Value} {x : Nat} {M : za_M} {Q : Int32 → za_M → Prop} : zT L 109 267 [l0, l1, .ref x, l3] [s0] M Q ↔ zT L 109 268 [l0, l1, .ref x, l3] [.ref x, s0] M Q := zT_nx rfl
set_option maxRecDepth 100000 in
theorem q109_268 {L : Nat} {l1 l2 l3 s0 s1 : Value} {x : Nat} {M : za_M} {Q : Int32 → za_M → Prop} : zT L 109 268 [.ref x, l1, l2, l3] [s0, s1] M Q ↔ zT L 109 269 [.ref x, l1, l2, l3] [.ref x, s0, s1] M Q := zT_nx rfl
set_option maxRecDepth 100000 in
theorem q109_269 {L : Nat} {l0 l1 l2 s0 s1 s2 : Value} {x : Int32} {M : za_M} {Q : Int32 → za_M → Prop} : zT L 109 269 [l0, l1, l2, .int x] [s0, s1, s2] M Q ↔ zT L 109 270 [l0, l1, l2, .int x] [.int x, s0, s1, s2] M Q := zT_nx rfl
set_option maxRecDepth 100000 in
theorem q109_270 {L : Nat} {l0 l1 l2 l3 s0 s1 s2 s3 : Value} {M : za_M} {Q : Int32 → za_M → Prop} : zT L 109 270 [l0, l1, l2, l3] [s0, s1, s2, s3] M Q ↔ zT L 109 271 [l0, l1, l2, l3] [.int (nI 1), s0, s1, s2, s3] M Q := zT_nx rfl
set_option maxRecDepth 100000 in
theorem q109_271 {L : Nat} {l0 l1 l2 l3 s2 s3 s4 : Value} {a b : Int32} {M : za_M} {Q : Int32 → za_M → Prop} : zT L 109 271 [l0, l1, l2, l3] [.int b, .int a, s2, s3, s4] M Q ↔ zT L 109 272 [l0, l1, l2, l3] [.int (a + b), s2, s3, s4] M Q := zT_nx rfl
set_option maxRecDepth 100000 in
theorem q109_272 {L : Nat} {l0 l1 l2 l3 s2 s3 : Value} {i : Int32} {a : Nat} {M : za_M} {Q : Int32 → za_M → Prop} : zT L 109 272 [l0, l1, l2, l3] [.int i, .ref a, s2, s3] M Q ↔ (za_in L a false i ∧ zT L 109 273 [l0, l1, l2, l3] [.int (M a i.toNatClampNeg), s2, s3] M Q) := zT_ld rfl
set_option maxRecDepth 100000 in
theorem q109_273 {L : Nat} {l1 l2 l3 s0 s1 s2 : Value} {x : Nat} {M : za_M} {Q : Int32 → za_M → Prop} : zT L 109 273 [.ref x, l1, l2, l3] [s0, s1, s2] M Q ↔ zT L 109 274 [.ref x, l1, l2, l3] [.ref x, s0, s1, s2] M Q := zT_nx rfl
set_option maxRecDepth 100000 in
theorem q109_274 {L : Nat} {l0 l1 l2 s0 s1 s2 s3 : Value} {x : Int32} {M : za_M} {Q : Int32 → za_M → Prop} : zT L 109 274 [l0, l1, l2, .int x] [s0, s1, s2, s3] M Q ↔ zT L 109 275 [l0, l1, l2, .int x] [.int x, s0, s1, s2, s3] M Q := zT_nx rfl
set_option maxRecDepth 100000 in
theorem q109_275 {L : Nat} {l0 l1 l2 l3 s0 s1 s2 s3 s4 : Value} {M : za_M} {Q : Int32 → za_M → Prop} : zT L 109 275 [l0, l1, l2, l3] [s0, s1, s2, s3, s4] M Q ↔ zT L 109 276 [l0, l1, l2, l3] [.int (nI 2), s0, s1, s2, s3, s4] M Q := zT_nx rfl
set_option maxRecDepth 100000 in
theorem q109_276 {L : Nat} {l0 l1 l2 l3 s2 s3 s4 s5 : Value} {a b : Int32} {M : za_M} {Q : Int32 → za_M → Prop} : zT L 109 276 [l0, l1, l2, l3] [.int b, .int a, s2, s3, s4, s5] M Q ↔ zT L 109 277 [l0, l1, l2, l3] [.int (a + b), s2, s3, s4, s5] M Q := zT_nx rfl
set_option maxRecDepth 100000 in
theorem q109_277 {L : Nat} {l0 l1 l2 l3 s2 s3 s4 : Value} {i : Int32} {a : Nat} {M : za_M} {Q : Int32 → za_M → Prop} : zT L 109 277 [l0, l1, l2, l3] [.int i, .ref a, s2, s3, s4] M Q ↔ (za_in L a false i ∧ zT L 109 278 [l0, l1, l2, l3] [.int (M a i.toNatClampNeg), s2, s3, s4] M Q) := zT_ld rfl
set_option maxRecDepth 100000 in
theorem q109_278 {L : Nat} {l0 l1 l2 l3 s3 : Value} {a0 a1 : Value} {M : za_M} {Q : Int32 → za_M → Prop} : zT L 109 278 [l0, l1, l2, l3] [a1, a0, .ref 26, s3] M Q ↔ zT L 85 0 [.ref 26, a0, a1] [] M (fun r M1 => zT L 109 281 [l0, l1, l2, l3] [.int r, s3] M1 Q) := zT_c1 rfl (by decide) rfl
set_option maxRecDepth 100000 in
theorem q109_281 {L : Nat} {l0 l1 l2 l3 : Value} {a b : Int32} {M : za_M} {Q : Int32 → za_M → Prop} : zT L 109 281 [l0, l1, l2, l3] [.int b, .int a] M Q ↔ (if a = b then zT L 109 587 [l0, l1, l2, l3] [] M Q else zT L 109 284 [l0, l1, l2, l3] [] M Q) := zT_if rfl
set_option maxRecDepth 100000 in
theorem q109_284 {L : Nat} {l0 l1 l2 l3 : Value} {M : za_M} {Q : Int32 → za_M → Prop} : zT L 109 284 [l0, l1, l2, l3] [] M Q ↔ zT L 109 285 [l0, l1, l2, l3] [.int (nI 0)] M Q := zT_nx rfl
set_option maxRecDepth 100000 in
theorem q109_285 {L : Nat} {l0 l1 l2 l3 : Value} {x : Int32} {M : za_M} {Q : Int32 → za_M → Prop} : zT L 109 285 [l0, l1, l2, l3] [.int x] M Q ↔ ((x = 0 ∨ x = 1) ∧ Q x M) := zT_rb rfl rfl
set_option maxRecDepth 100000 in
theorem q109_286 {L : Nat} {l0 l2 l3 : Value} {x : Nat} {M : za_M} {Q : Int32 → za_M → Prop} : zT L 109 286 [l0, .ref x, l2, l3] [] M Q ↔ zT L 109 287 [l0, .ref x, l2, l3] [.ref x] M Q := zT_nx rfl
set_option maxRecDepth 100000 in
theorem q109_287 {L : Nat} {l0 l1 l2 l3 : Value} {M : za_M} {Q : Int32 → za_M → Prop} : zT L 109 287 [l0, l1, l2, l3] [.ref 0] M Q ↔ zT L 61 0 [.ref 0] [] M (fun r M1 => zT L 109 290 [l0, l1, l2, l3] [.int r] M1 Q) := zT_c1 rfl (by decide) rfl
set_option maxRecDepth 100000 in
theorem q109_290 {L : Nat} {l0 l1 l3 s0 : Value} {x : Nat} {M : za_M} {Q : Int32 → za_M → Prop} : zT L 109 290 [l0, l1, .ref x, l3] [s0] M Q ↔ zT L 109 291 [l0, l1, .ref x, l3] [.ref x, s0] M Q := zT_nx rfl
set_option maxRecDepth 100000 in
theorem q109_291 {L : Nat} {l0 l1 l2 l3 s1 : Value} {M : za_M} {Q : Int32 → za_M → Prop} : zT L 109 291 [l0, l1, l2, l3] [.ref 26, s1] M Q ↔ zT L 86 0 [.ref 26, .null, .null, .null, .null, .null] [] M (fun r M1 => zT L 109 294 [l0, l1, l2, l3] [.int r, s1] M1 Q) := zT_c1 rfl (by decide) rfl
set_option maxRecDepth 100000 in
theorem q109_294 {L : Nat} {l0 l1 l2 l3 : Value} {a b : Int32} {M : za_M} {Q : Int32 → za_M → Prop} : zT L 109 294 [l0, l1, l2, l3] [.int b, .int a] M Q ↔ (if a = b then zT L 109 587 [l0, l1, l2, l3] [] M Q else zT L 109 297 [l0, l1, l2, l3] [] M Q) := zT_if rfl
set_option maxRecDepth 100000 in
theorem q109_297 {L : Nat} {l0 l1 l2 l3 : Value} {M : za_M} {Q : Int32 → za_M → Prop} : zT L 109 297 [l0, l1, l2, l3] [] M Q ↔ zT L 109 298 [l0, l1, l2, l3] [.int (nI 0)] M Q := zT_nx rfl
set_option maxRecDepth 100000 in
theorem q109_298 {L : Nat} {l0 l1 l2 l3 : Value} {x : Int32} {M : za_M} {Q : Int32 → za_M → Prop} : zT L 109 298 [l0, l1, l2, l3] [.int x] M Q ↔ ((x = 0 ∨ x = 1) ∧ Q x M) := zT_rb rfl rfl
set_option maxRecDepth 100000 in
theorem q109_299 {L : Nat} {l0 l2 l3 : Value} {x : Nat} {M : za_M} {Q : Int32 → za_M → Prop} : zT L 109 299 [l0, .ref x, l2, l3] [] M Q ↔ zT L 109 300 [l0, .ref x, l2, l3] [.ref x] M Q := zT_nx rfl
set_option maxRecDepth 100000 in
theorem q109_300 {L : Nat} {l1 l2 l3 s0 : Value} {x : Nat} {M : za_M} {Q : Int32 → za_M → Prop} : zT L 109 300 [.ref x, l1, l2, l3] [s0] M Q ↔ zT L 109 301 [.ref x, l1, l2, l3] [.ref x, s0] M Q := zT_nx rfl
set_option maxRecDepth 100000 in
theorem q109_301 {L : Nat} {l0 l1 l2 s0 s1 : Value} {x : Int32} {M : za_M} {Q : Int32 → za_M → Prop} : zT L 109 301 [l0, l1, l2, .int x] [s0, s1] M Q ↔ zT L 109 302 [l0, l1, l2, .int x] [.int x, s0, s1] M Q := zT_nx rfl
set_option maxRecDepth 100000 in
theorem q109_302 {L : Nat} {l0 l1 l2 l3 s0 s1 s2 : Value} {M : za_M} {Q : Int32 → za_M → Prop} : zT L 109 302 [l0, l1, l2, l3] [s0, s1, s2] M Q ↔ zT L 109 303 [l0, l1, l2, l3] [.int (nI 1), s0, s1, s2] M Q := zT_nx rfl
set_option maxRecDepth 100000 in
theorem q109_303 {L : Nat} {l0 l1 l2 l3 s2 s3 : Value} {a b : Int32} {M : za_M} {Q : Int32 → za_M → Prop} : zT L 109 303 [l0, l1, l2, l3] [.int b, .int a, s2, s3] M Q ↔ zT L 109 304 [l0, l1, l2, l3] [.int (a + b), s2, s3] M Q := zT_nx rfl
set_option maxRecDepth 100000 in
theorem q109_304 {L : Nat} {l0 l1 l2 l3 s2 : Value} {i : Int32} {a : Nat} {M : za_M} {Q : Int32 → za_M → Prop} : zT L 109 304 [l0, l1, l2, l3] [.int i, .ref a, s2] M Q ↔ (za_in L a false i ∧ zT L 109 305 [l0, l1, l2, l3] [.int (M a i.toNatClampNeg), s2] M Q) := zT_ld rfl
set_option maxRecDepth 100000 in
theorem q109_305 {L : Nat} {l0 l1 l2 l3 : Value} {a0 : Value} {M : za_M} {Q : Int32 → za_M → Prop} : zT L 109 305 [l0, l1, l2, l3] [a0, .ref 0] M Q ↔ zT L 62 0 [.ref 0, a0] [] M (fun r M1 => zT L 109 308 [l0, l1, l2, l3] [.int r] M1 Q) := zT_c1 rfl (by decide) rfl
set_option maxRecDepth 100000 in
theorem q109_308 {L : Nat} {l0 l1 l3 s0 : Value} {x : Nat} {M : za_M} {Q : Int32 → za_M → Prop} : zT L 109 308 [l0, l1, .ref x, l3] [s0] M Q ↔ zT L 109 309 [l0, l1, .ref x, l3] [.ref x, s0] M Q := zT_nx rfl
set_option maxRecDepth 100000 in
theorem q109_309 {L : Nat} {l1 l2 l3 s0 s1 : Value} {x : Nat} {M : za_M} {Q : Int32 → za_M → Prop} : zT L 109 309 [.ref x, l1, l2, l3] [s0, s1] M Q ↔ zT L 109 310 [.ref x, l1, l2, l3] [.ref x, s0, s1] M Q := zT_nx rfl
set_option maxRecDepth 100000 in
theorem q109_310 {L : Nat} {l0 l1 l2 s0 s1 s2 : Value} {x : Int32} {M : za_M} {Q : Int32 → za_M → Prop} : zT L 109 310 [l0, l1, l2, .int x] [s0, s1, s2] M Q ↔ zT L 109 311 [l0, l1, l2, .int x] [.int x, s0, s1, s2] M Q := zT_nx rfl
set_option maxRecDepth 100000 in
theorem q109_311 {L : Nat} {l0 l1 l2 l3 s0 s1 s2 s3 : Value} {M : za_M} {Q : Int32 → za_M → Prop} : zT L 109 311 [l0, l1, l2, l3] [s0, s1, s2, s3] M Q ↔ zT L 109 312 [l0, l1, l2, l3] [.int (nI 1), s0, s1, s2, s3] M Q := zT_nx rfl
set_option maxRecDepth 100000 in
theorem q109_312 {L : Nat} {l0 l1 l2 l3 s2 s3 s4 : Value} {a b : Int32} {M : za_M} {Q : Int32 → za_M → Prop} : zT L 109 312 [l0, l1, l2, l3] [.int b, .int a, s2, s3, s4] M Q ↔ zT L 109 313 [l0, l1, l2, l3] [.int (a + b), s2, s3, s4] M Q := zT_nx rfl
set_option maxRecDepth 100000 in
theorem q109_313 {L : Nat} {l0 l1 l2 l3 s2 s3 : Value} {i : Int32} {a : Nat} {M : za_M} {Q : Int32 → za_M → Prop} : zT L 109 313 [l0, l1, l2, l3] [.int i, .ref a, s2, s3] M Q ↔ (za_in L a false i ∧ zT L 109 314 [l0, l1, l2, l3] [.int (M a i.toNatClampNeg), s2, s3] M Q) := zT_ld rfl
set_option maxRecDepth 100000 in
theorem q109_314 {L : Nat} {l0 l1 l2 l3 s2 : Value} {a0 : Value} {M : za_M} {Q : Int32 → za_M → Prop} : zT L 109 314 [l0, l1, l2, l3] [a0, .ref 26, s2] M Q ↔ zT L 87 0 [.ref 26, a0] [] M (fun r M1 => zT L 109 317 [l0, l1, l2, l3] [.int r, s2] M1 Q) := zT_c1 rfl (by decide) rfl
set_option maxRecDepth 100000 in
theorem q109_317 {L : Nat} {l0 l1 l2 l3 : Value} {a b : Int32} {M : za_M} {Q : Int32 → za_M → Prop} : zT L 109 317 [l0, l1, l2, l3] [.int b, .int a] M Q ↔ (if a = b then zT L 109 587 [l0, l1, l2, l3] [] M Q else zT L 109 320 [l0, l1, l2, l3] [] M Q) := zT_if rfl
set_option maxRecDepth 100000 in
theorem q109_320 {L : Nat} {l0 l1 l2 l3 : Value} {M : za_M} {Q : Int32 → za_M → Prop} : zT L 109 320 [l0, l1, l2, l3] [] M Q ↔ zT L 109 321 [l0, l1, l2, l3] [.int (nI 0)] M Q := zT_nx rfl
set_option maxRecDepth 100000 in
theorem q109_321 {L : Nat} {l0 l1 l2 l3 : Value} {x : Int32} {M : za_M} {Q : Int32 → za_M → Prop} : zT L 109 321 [l0, l1, l2, l3] [.int x] M Q ↔ ((x = 0 ∨ x = 1) ∧ Q x M) := zT_rb rfl rfl
set_option maxRecDepth 100000 in
theorem q109_322 {L : Nat} {l0 l2 l3 : Value} {x : Nat} {M : za_M} {Q : Int32 → za_M → Prop} : zT L 109 322 [l0, .ref x, l2, l3] [] M Q ↔ zT L 109 323 [l0, .ref x, l2, l3] [.ref x] M Q := zT_nx rfl
set_option maxRecDepth 100000 in
theorem q109_323 {L : Nat} {l1 l2 l3 s0 : Value} {x : Nat} {M : za_M} {Q : Int32 → za_M → Prop} : zT L 109 323 [.ref x, l1, l2, l3] [s0] M Q ↔ zT L 109 324 [.ref x, l1, l2, l3] [.ref x, s0] M Q := zT_nx rfl
set_option maxRecDepth 100000 in
theorem q109_324 {L : Nat} {l0 l1 l2 s0 s1 : Value} {x : Int32} {M : za_M} {Q : Int32 → za_M → Prop} : zT L 109 324 [l0, l1, l2, .int x] [s0, s1] M Q ↔ zT L 109 325 [l0, l1, l2, .int x] [.int x, s0, s1] M Q := zT_nx rfl
set_option maxRecDepth 100000 in
theorem q109_325 {L : Nat} {l0 l1 l2 l3 s0 s1 s2 : Value} {M : za_M} {Q : Int32 → za_M → Prop} : zT L 109 325 [l0, l1, l2, l3] [s0, s1, s2] M Q ↔ zT L 109 326 [l0, l1, l2, l3] [.int (nI 1), s0, s1, s2] M Q := zT_nx rfl
set_option maxRecDepth 100000 in
theorem q109_326 {L : Nat} {l0 l1 l2 l3 s2 s3 : Value} {a b : Int32} {M : za_M} {Q : Int32 → za_M → Prop} : zT L 109 326 [l0, l1, l2, l3] [.int b, .int a, s2, s3] M Q ↔ zT L 109 327 [l0, l1, l2, l3] [.int (a + b), s2, s3] M Q := zT_nx rfl
set_option maxRecDepth 100000 in
theorem q109_327 {L : Nat} {l0 l1 l2 l3 s2 : Value} {i : Int32} {a : Nat} {M : za_M} {Q : Int32 → za_M → Prop} : zT L 109 327 [l0, l1, l2, l3] [.int i, .ref a, s2] M Q ↔ (za_in L a false i ∧ zT L 109 328 [l0, l1, l2, l3] [.int (M a i.toNatClampNeg), s2] M Q) := zT_ld rfl
set_option maxRecDepth 100000 in
theorem q109_328 {L : Nat} {l0 l1 l2 l3 : Value} {a0 : Value} {M : za_M} {Q : Int32 → za_M → Prop} : zT L 109 328 [l0, l1, l2, l3] [a0, .ref 0] M Q ↔ zT L 63 0 [.ref 0, a0] [] M (fun r M1 => zT L 109 331 [l0, l1, l2, l3] [.int r] M1 Q) := zT_c1 rfl (by decide) rfl
set_option maxRecDepth 100000 in
theorem q109_331 {L : Nat} {l0 l1 l3 s0 : Value} {x : Nat} {M : za_M} {Q : Int32 → za_M → Prop} : zT L 109 331 [l0, l1, .ref x, l3] [s0] M Q ↔ zT L 109 332 [l0, l1, .ref x, l3] [.ref x, s0] M Q := zT_nx rfl
set_option maxRecDepth 100000 in
theorem q109_332 {L : Nat} {l1 l2 l3 s0 s1 : Value} {x : Nat} {M : za_M} {Q : Int32 → za_M → Prop} : zT L 109 332 [.ref x, l1, l2, l3] [s0, s1] M Q ↔ zT L 109 333 [.ref x, l1, l2, l3] [.ref x, s0, s1] M Q := zT_nx rfl
set_option maxRecDepth 100000 in
theorem q109_333 {L : Nat} {l0 l1 l2 s0 s1 s2 : Value} {x : Int32} {M : za_M} {Q : Int32 → za_M → Prop} : zT L 109 333 [l0, l1, l2, .int x] [s0, s1, s2] M Q ↔ zT L 109 334 [l0, l1, l2, .int x] [.int x, s0, s1, s2] M Q := zT_nx rfl
set_option maxRecDepth 100000 in
theorem q109_334 {L : Nat} {l0 l1 l2 l3 s0 s1 s2 s3 : Value} {M : za_M} {Q : Int32 → za_M → Prop} : zT L 109 334 [l0, l1, l2, l3] [s0, s1, s2, s3] M Q ↔ zT L 109 335 [l0, l1, l2, l3] [.int (nI 1), s0, s1, s2, s3] M Q := zT_nx rfl
set_option maxRecDepth 100000 in
theorem q109_335 {L : Nat} {l0 l1 l2 l3 s2 s3 s4 : Value} {a b : Int32} {M : za_M} {Q : Int32 → za_M → Prop} : zT L 109 335 [l0, l1, l2, l3] [.int b, .int a, s2, s3, s4] M Q ↔ zT L 109 336 [l0, l1, l2, l3] [.int (a + b), s2, s3, s4] M Q := zT_nx rfl
set_option maxRecDepth 100000 in
theorem q109_336 {L : Nat} {l0 l1 l2 l3 s2 s3 : Value} {i : Int32} {a : Nat} {M : za_M} {Q : Int32 → za_M → Prop} : zT L 109 336 [l0, l1, l2, l3] [.int i, .ref a, s2, s3] M Q ↔ (za_in L a false i ∧ zT L 109 337 [l0, l1, l2, l3] [.int (M a i.toNatClampNeg), s2, s3] M Q) := zT_ld rfl
set_option maxRecDepth 100000 in
theorem q109_337 {L : Nat} {l0 l1 l2 l3 s2 : Value} {a0 : Value} {M : za_M} {Q : Int32 → za_M → Prop} : zT L 109 337 [l0, l1, l2, l3] [a0, .ref 26, s2] M Q ↔ zT L 88 0 [.ref 26, a0] [] M (fun r M1 => zT L 109 340 [l0, l1, l2, l3] [.int r, s2] M1 Q) := zT_c1 rfl (by decide) rfl
set_option maxRecDepth 100000 in
theorem q109_340 {L : Nat} {l0 l1 l2 l3 : Value} {a b : Int32} {M : za_M} {Q : Int32 → za_M → Prop} : zT L 109 340 [l0, l1, l2, l3] [.int b, .int a] M Q ↔ (if a = b then zT L 109 587 [l0, l1, l2, l3] [] M Q else zT L 109 343 [l0, l1, l2, l3] [] M Q) := zT_if rfl
set_option maxRecDepth 100000 in
theorem q109_343 {L : Nat} {l0 l1 l2 l3 : Value} {M : za_M} {Q : Int32 → za_M → Prop} : zT L 109 343 [l0, l1, l2, l3] [] M Q ↔ zT L 109 344 [l0, l1, l2, l3] [.int (nI 0)] M Q := zT_nx rfl
set_option maxRecDepth 100000 in
theorem q109_344 {L : Nat} {l0 l1 l2 l3 : Value} {x : Int32} {M : za_M} {Q : Int32 → za_M → Prop} : zT L 109 344 [l0, l1, l2, l3] [.int x] M Q ↔ ((x = 0 ∨ x = 1) ∧ Q x M) := zT_rb rfl rfl
set_option maxRecDepth 100000 in
theorem q109_345 {L : Nat} {l0 l2 l3 : Value} {x : Nat} {M : za_M} {Q : Int32 → za_M → Prop} : zT L 109 345 [l0, .ref x, l2, l3] [] M Q ↔ zT L 109 346 [l0, .ref x, l2, l3] [.ref x] M Q := zT_nx rfl
set_option maxRecDepth 100000 in
theorem q109_346 {L : Nat} {l1 l2 l3 s0 : Value} {x : Nat} {M : za_M} {Q : Int32 → za_M → Prop} : zT L 109 346 [.ref x, l1, l2, l3] [s0] M Q ↔ zT L 109 347 [.ref x, l1, l2, l3] [.ref x, s0] M Q := zT_nx rfl
set_option maxRecDepth 100000 in
theorem q109_347 {L : Nat} {l0 l1 l2 s0 s1 : Value} {x : Int32} {M : za_M} {Q : Int32 → za_M → Prop} : zT L 109 347 [l0, l1, l2, .int x] [s0, s1] M Q ↔ zT L 109 348 [l0, l1, l2, .int x] [.int x, s0, s1] M Q := zT_nx rfl
set_option maxRecDepth 100000 in
theorem q109_348 {L : Nat} {l0 l1 l2 l3 s0 s1 s2 : Value} {M : za_M} {Q : Int32 → za_M → Prop} : zT L 109 348 [l0, l1, l2, l3] [s0, s1, s2] M Q ↔ zT L 109 349 [l0, l1, l2, l3] [.int (nI 1), s0, s1, s2] M Q := zT_nx rfl
set_option maxRecDepth 100000 in
theorem q109_349 {L : Nat} {l0 l1 l2 l3 s2 s3 : Value} {a b : Int32} {M : za_M} {Q : Int32 → za_M → Prop} : zT L 109 349 [l0, l1, l2, l3] [.int b, .int a, s2, s3] M Q ↔ zT L 109 350 [l0, l1, l2, l3] [.int (a + b), s2, s3] M Q := zT_nx rfl
set_option maxRecDepth 100000 in
theorem q109_350 {L : Nat} {l0 l1 l2 l3 s2 : Value} {i : Int32} {a : Nat} {M : za_M} {Q : Int32 → za_M → Prop} : zT L 109 350 [l0, l1, l2, l3] [.int i, .ref a, s2] M Q ↔ (za_in L a false i ∧ zT L 109 351 [l0, l1, l2, l3] [.int (M a i.toNatClampNeg), s2] M Q) := zT_ld rfl
set_option maxRecDepth 100000 in
theorem q109_351 {L : Nat} {l1 l2 l3 s0 s1 : Value} {x : Nat} {M : za_M} {Q : Int32 → za_M → Prop} : zT L 109 351 [.ref x, l1, l2, l3] [s0, s1] M Q ↔ zT L 109 352 [.ref x, l1, l2, l3] [.ref x, s0, s1] M Q := zT_nx rfl
set_option maxRecDepth 100000 in
theorem q109_352 {L : Nat} {l0 l1 l2 s0 s1 s2 : Value} {x : Int32} {M : za_M} {Q : Int32 → za_M → Prop} : zT L 109 352 [l0, l1, l2, .int x] [s0, s1, s2] M Q ↔ zT L 109 353 [l0, l1, l2, .int x] [.int x, s0, s1, s2] M Q := zT_nx rfl
set_option maxRecDepth 100000 in
theorem q109_353 {L : Nat} {l0 l1 l2 l3 s0 s1 s2 s3 : Value} {M : za_M} {Q : Int32 → za_M → Prop} : zT L 109 353 [l0, l1, l2, l3] [s0, s1, s2, s3] M Q ↔ zT L 109 354 [l0, l1, l2, l3] [.int (nI 2), s0, s1, s2, s3] M Q := zT_nx rfl
set_option maxRecDepth 100000 in
theorem q109_354 {L : Nat} {l0 l1 l2 l3 s2 s3 s4 : Value} {a b : Int32} {M : za_M} {Q : Int32 → za_M → Prop} : zT L 109 354 [l0, l1, l2, l3] [.int b, .int a, s2, s3, s4] M Q ↔ zT L 109 355 [l0, l1, l2, l3] [.int (a + b), s2, s3, s4] M Q := zT_nx rfl
set_option maxRecDepth 100000 in
theorem q109_355 {L : Nat} {l0 l1 l2 l3 s2 s3 : Value} {i : Int32} {a : Nat} {M : za_M} {Q : Int32 → za_M → Prop} : zT L 109 355 [l0, l1, l2, l3] [.int i, .ref a, s2, s3] M Q ↔ (za_in L a false i ∧ zT L 109 356 [l0, l1, l2, l3] [.int (M a i.toNatClampNeg), s2, s3] M Q) := zT_ld rfl
set_option maxRecDepth 100000 in
theorem q109_356 {L : Nat} {l0 l1 l2 l3 : Value} {a0 a1 : Value} {M : za_M} {Q : Int32 → za_M → Prop} : zT L 109 356 [l0, l1, l2, l3] [a1, a0, .ref 0] M Q ↔ zT L 64 0 [.ref 0, a0, a1] [] M (fun r M1 => zT L 109 359 [l0, l1, l2, l3] [.int r] M1 Q) := zT_c1 rfl (by decide) rfl
set_option maxRecDepth 100000 in
theorem q109_359 {L : Nat} {l0 l1 l3 s0 : Value} {x : Nat} {M : za_M} {Q : Int32 → za_M → Prop} : zT L 109 359 [l0, l1, .ref x, l3] [s0] M Q ↔ zT L 109 360 [l0, l1, .ref x, l3] [.ref x, s0] M Q := zT_nx rfl
set_option maxRecDepth 100000 in
theorem q109_360 {L : Nat} {l1 l2 l3 s0 s1 : Value} {x : Nat} {M : za_M} {Q : Int32 → za_M → Prop} : zT L 109 360 [.ref x, l1, l2, l3] [s0, s1] M Q ↔ zT L 109 361 [.ref x, l1, l2, l3] [.ref x, s0, s1] M Q := zT_nx rfl
set_option maxRecDepth 100000 in
theorem q109_361 {L : Nat} {l0 l1 l2 s0 s1 s2 : Value} {x : Int32} {M : za_M} {Q : Int32 → za_M → Prop} : zT L 109 361 [l0, l1, l2, .int x] [s0, s1, s2] M Q ↔ zT L 109 362 [l0, l1, l2, .int x] [.int x, s0, s1, s2] M Q := zT_nx rfl
set_option maxRecDepth 100000 in
theorem q109_362 {L : Nat} {l0 l1 l2 l3 s0 s1 s2 s3 : Value} {M : za_M} {Q : Int32 → za_M → Prop} : zT L 109 362 [l0, l1, l2, l3] [s0, s1, s2, s3] M Q ↔ zT L 109 363 [l0, l1, l2, l3] [.int (nI 1), s0, s1, s2, s3] M Q := zT_nx rfl
set_option maxRecDepth 100000 in
theorem q109_363 {L : Nat} {l0 l1 l2 l3 s2 s3 s4 : Value} {a b : Int32} {M : za_M} {Q : Int32 → za_M → Prop} : zT L 109 363 [l0, l1, l2, l3] [.int b, .int a, s2, s3, s4] M Q ↔ zT L 109 364 [l0, l1, l2, l3] [.int (a + b), s2, s3, s4] M Q := zT_nx rfl
set_option maxRecDepth 100000 in
theorem q109_364 {L : Nat} {l0 l1 l2 l3 s2 s3 : Value} {i : Int32} {a : Nat} {M : za_M} {Q : Int32 → za_M → Prop} : zT L 109 364 [l0, l1, l2, l3] [.int i, .ref a, s2, s3] M Q ↔ (za_in L a false i ∧ zT L 109 365 [l0, l1, l2, l3] [.int (M a i.toNatClampNeg), s2, s3] M Q) := zT_ld rfl
set_option maxRecDepth 100000 in
theorem q109_365 {L : Nat} {l1 l2 l3 s0 s1 s2 : Value} {x : Nat} {M : za_M} {Q : Int32 → za_M → Prop} : zT L 109 365 [.ref x, l1, l2, l3] [s0, s1, s2] M Q ↔ zT L 109 366 [.ref x, l1, l2, l3] [.ref x, s0, s1, s2] M Q := zT_nx rfl
set_option maxRecDepth 100000 in
theorem q109_366 {L : Nat} {l0 l1 l2 s0 s1 s2 s3 : Value} {x : Int32} {M : za_M} {Q : Int32 → za_M → Prop} : zT L 109 366 [l0, l1, l2, .int x] [s0, s1, s2, s3] M Q ↔ zT L 109 367 [l0, l1, l2, .int x] [.int x, s0, s1, s2, s3] M Q := zT_nx rfl
set_option maxRecDepth 100000 in
theorem q109_367 {L : Nat} {l0 l1 l2 l3 s0 s1 s2 s3 s4 : Value} {M : za_M} {Q : Int32 → za_M → Prop} : zT L 109 367 [l0, l1, l2, l3] [s0, s1, s2, s3, s4] M Q ↔ zT L 109 368 [l0, l1, l2, l3] [.int (nI 2), s0, s1, s2, s3, s4] M Q := zT_nx rfl
set_option maxRecDepth 100000 in
theorem q109_368 {L : Nat} {l0 l1 l2 l3 s2 s3 s4 s5 : Value} {a b : Int32} {M : za_M} {Q : Int32 → za_M → Prop} : zT L 109 368 [l0, l1, l2, l3] [.int b, .int a, s2, s3, s4, s5] M Q ↔ zT L 109 369 [l0, l1, l2, l3] [.int (a + b), s2, s3, s4, s5] M Q := zT_nx rfl
set_option maxRecDepth 100000 in
theorem q109_369 {L : Nat} {l0 l1 l2 l3 s2 s3 s4 : Value} {i : Int32} {a : Nat} {M : za_M} {Q : Int32 → za_M → Prop} : zT L 109 369 [l0, l1, l2, l3] [.int i, .ref a, s2, s3, s4] M Q ↔ (za_in L a false i ∧ zT L 109 370 [l0, l1, l2, l3] [.int (M a i.toNatClampNeg), s2, s3, s4] M Q) := zT_ld rfl
set_option maxRecDepth 100000 in
theorem q109_370 {L : Nat} {l0 l1 l2 l3 s3 : Value} {a0 a1 : Value} {M : za_M} {Q : Int32 → za_M → Prop} : zT L 109 370 [l0, l1, l2, l3] [a1, a0, .ref 26, s3] M Q ↔ zT L 89 0 [.ref 26, a0, a1] [] M (fun r M1 => zT L 109 373 [l0, l1, l2, l3] [.int r, s3] M1 Q) := zT_c1 rfl (by decide) rfl
set_option maxRecDepth 100000 in
theorem q109_373 {L : Nat} {l0 l1 l2 l3 : Value} {a b : Int32} {M : za_M} {Q : Int32 → za_M → Prop} : zT L 109 373 [l0, l1, l2, l3] [.int b, .int a] M Q ↔ (if a = b then zT L 109 587 [l0, l1, l2, l3] [] M Q else zT L 109 376 [l0, l1, l2, l3] [] M Q) := zT_if rfl
set_option maxRecDepth 100000 in
theorem q109_376 {L : Nat} {l0 l1 l2 l3 : Value} {M : za_M} {Q : Int32 → za_M → Prop} : zT L 109 376 [l0, l1, l2, l3] [] M Q ↔ zT L 109 377 [l0, l1, l2, l3] [.int (nI 0)] M Q := zT_nx rfl
set_option maxRecDepth 100000 in
theorem q109_377 {L : Nat} {l0 l1 l2 l3 : Value} {x : Int32} {M : za_M} {Q : Int32 → za_M → Prop} : zT L 109 377 [l0, l1, l2, l3] [.int x] M Q ↔ ((x = 0 ∨ x = 1) ∧ Q x M) := zT_rb rfl rfl
set_option maxRecDepth 100000 in
theorem q109_378 {L : Nat} {l0 l2 l3 : Value} {x : Nat} {M : za_M} {Q : Int32 → za_M → Prop} : zT L 109 378 [l0, .ref x, l2, l3] [] M Q ↔ zT L 109 379 [l0, .ref x, l2, l3] [.ref x] M Q := zT_nx rfl
set_option maxRecDepth 100000 in
theorem q109_379 {L : Nat} {l1 l2 l3 s0 : Value} {x : Nat} {M : za_M} {Q : Int32 → za_M → Prop} : zT L 109 379 [.ref x, l1, l2, l3] [s0] M Q ↔ zT L 109 380 [.ref x, l1, l2, l3] [.ref x, s0] M Q := zT_nx rfl
set_option maxRecDepth 100000 in
theorem q109_380 {L : Nat} {l0 l1 l2 s0 s1 : Value} {x : Int32} {M : za_M} {Q : Int32 → za_M → Prop} : zT L 109 380 [l0, l1, l2, .int x] [s0, s1] M Q ↔ zT L 109 381 [l0, l1, l2, .int x] [.int x, s0, s1] M Q := zT_nx rfl
set_option maxRecDepth 100000 in
theorem q109_381 {L : Nat} {l0 l1 l2 l3 s0 s1 s2 : Value} {M : za_M} {Q : Int32 → za_M → Prop} : zT L 109 381 [l0, l1, l2, l3] [s0, s1, s2] M Q ↔ zT L 109 382 [l0, l1, l2, l3] [.int (nI 1), s0, s1, s2] M Q := zT_nx rfl
set_option maxRecDepth 100000 in
theorem q109_382 {L : Nat} {l0 l1 l2 l3 s2 s3 : Value} {a b : Int32} {M : za_M} {Q : Int32 → za_M → Prop} : zT L 109 382 [l0, l1, l2, l3] [.int b, .int a, s2, s3] M Q ↔ zT L 109 383 [l0, l1, l2, l3] [.int (a + b), s2, s3] M Q := zT_nx rfl
set_option maxRecDepth 100000 in
theorem q109_383 {L : Nat} {l0 l1 l2 l3 s2 : Value} {i : Int32} {a : Nat} {M : za_M} {Q : Int32 → za_M → Prop} : zT L 109 383 [l0, l1, l2, l3] [.int i, .ref a, s2] M Q ↔ (za_in L a false i ∧ zT L 109 384 [l0, l1, l2, l3] [.int (M a i.toNatClampNeg), s2] M Q) := zT_ld rfl
set_option maxRecDepth 100000 in
theorem q109_384 {L : Nat} {l1 l2 l3 s0 s1 : Value} {x : Nat} {M : za_M} {Q : Int32 → za_M → Prop} : zT L 109 384 [.ref x, l1, l2, l3] [s0, s1] M Q ↔ zT L 109 385 [.ref x, l1, l2, l3] [.ref x, s0, s1] M Q := zT_nx rfl
set_option maxRecDepth 100000 in
theorem q109_385 {L : Nat} {l0 l1 l2 s0 s1 s2 : Value} {x : Int32} {M : za_M} {Q : Int32 → za_M → Prop} : zT L 109 385 [l0, l1, l2, .int x] [s0, s1, s2] M Q ↔ zT L 109 386 [l0, l1, l2, .int x] [.int x, s0, s1, s2] M Q := zT_nx rfl
set_option maxRecDepth 100000 in
theorem q109_386 {L : Nat} {l0 l1 l2 l3 s0 s1 s2 s3 : Value} {M : za_M} {Q : Int32 → za_M → Prop} : zT L 109 386 [l0, l1, l2, l3] [s0, s1, s2, s3] M Q ↔ zT L 109 387 [l0, l1, l2, l3] [.int (nI 2), s0, s1, s2, s3] M Q := zT_nx rfl
set_option maxRecDepth 100000 in
theorem q109_387 {L : Nat} {l0 l1 l2 l3 s2 s3 s4 : Value} {a b : Int32} {M : za_M} {Q : Int32 → za_M → Prop} : zT L 109 387 [l0, l1, l2, l3] [.int b, .int a, s2, s3, s4] M Q ↔ zT L 109 388 [l0, l1, l2, l3] [.int (a + b), s2, s3, s4] M Q := zT_nx rfl
set_option maxRecDepth 100000 in
theorem q109_388 {L : Nat} {l0 l1 l2 l3 s2 s3 : Value} {i : Int32} {a : Nat} {M : za_M} {Q : Int32 → za_M → Prop} : zT L 109 388 [l0, l1, l2, l3] [.int i, .ref a, s2, s3] M Q ↔ (za_in L a false i ∧ zT L 109 389 [l0, l1, l2, l3] [.int (M a i.toNatClampNeg), s2, s3] M Q) := zT_ld rfl
set_option maxRecDepth 100000 in
theorem q109_389 {L : Nat} {l0 l1 l2 l3 : Value} {a0 a1 : Value} {M : za_M} {Q : Int32 → za_M → Prop} : zT L 109 389 [l0, l1, l2, l3] [a1, a0, .ref 0] M Q ↔ zT L 65 0 [.ref 0, a0, a1] [] M (fun r M1 => zT L 109 392 [l0, l1, l2, l3] [.int r] M1 Q) := zT_c1 rfl (by decide) rfl
set_option maxRecDepth 100000 in
theorem q109_392 {L : Nat} {l0 l1 l3 s0 : Value} {x : Nat} {M : za_M} {Q : Int32 → za_M → Prop} : zT L 109 392 [l0, l1, .ref x, l3] [s0] M Q ↔ zT L 109 393 [l0, l1, .ref x, l3] [.ref x, s0] M Q := zT_nx rfl
set_option maxRecDepth 100000 in
theorem q109_393 {L : Nat} {l1 l2 l3 s0 s1 : Value} {x : Nat} {M : za_M} {Q : Int32 → za_M → Prop} : zT L 109 393 [.ref x, l1, l2, l3] [s0, s1] M Q ↔ zT L 109 394 [.ref x, l1, l2, l3] [.ref x, s0, s1] M Q := zT_nx rfl
set_option maxRecDepth 100000 in
theorem q109_394 {L : Nat} {l0 l1 l2 s0 s1 s2 : Value} {x : Int32} {M : za_M} {Q : Int32 → za_M → Prop} : zT L 109 394 [l0, l1, l2, .int x] [s0, s1, s2] M Q ↔ zT L 109 395 [l0, l1, l2, .int x] [.int x, s0, s1, s2] M Q := zT_nx rfl
set_option maxRecDepth 100000 in
theorem q109_395 {L : Nat} {l0 l1 l2 l3 s0 s1 s2 s3 : Value} {M : za_M} {Q : Int32 → za_M → Prop} : zT L 109 395 [l0, l1, l2, l3] [s0, s1, s2, s3] M Q ↔ zT L 109 396 [l0, l1, l2, l3] [.int (nI 1), s0, s1, s2, s3] M Q := zT_nx rfl
set_option maxRecDepth 100000 in
theorem q109_396 {L : Nat} {l0 l1 l2 l3 s2 s3 s4 : Value} {a b : Int32} {M : za_M} {Q : Int32 → za_M → Prop} : zT L 109 396 [l0, l1, l2, l3] [.int b, .int a, s2, s3, s4] M Q ↔ zT L 109 397 [l0, l1, l2, l3] [.int (a + b), s2, s3, s4] M Q := zT_nx rfl
set_option maxRecDepth 100000 in
theorem q109_397 {L : Nat} {l0 l1 l2 l3 s2 s3 : Value} {i : Int32} {a : Nat} {M : za_M} {Q : Int32 → za_M → Prop} : zT L 109 397 [l0, l1, l2, l3] [.int i, .ref a, s2, s3] M Q ↔ (za_in L a false i ∧ zT L 109 398 [l0, l1, l2, l3] [.int (M a i.toNatClampNeg), s2, s3] M Q) := zT_ld rfl
set_option maxRecDepth 100000 in
theorem q109_398 {L : Nat} {l1 l2 l3 s0 s1 s2 : Value} {x : Nat} {M : za_M} {Q : Int32 → za_M → Prop} : zT L 109 398 [.ref x, l1, l2, l3] [s0, s1, s2] M Q ↔ zT L 109 399 [.ref x, l1, l2, l3] [.ref x, s0, s1, s2] M Q := zT_nx rfl
set_option maxRecDepth 100000 in
theorem q109_399 {L : Nat} {l0 l1 l2 s0 s1 s2 s3 : Value} {x : Int32} {M : za_M} {Q : Int32 → za_M → Prop} : zT L 109 399 [l0, l1, l2, .int x] [s0, s1, s2, s3] M Q ↔ zT L 109 400 [l0, l1, l2, .int x] [.int x, s0, s1, s2, s3] M Q := zT_nx rfl
set_option maxRecDepth 100000 in
theorem q109_400 {L : Nat} {l0 l1 l2 l3 s0 s1 s2 s3 s4 : Value} {M : za_M} {Q : Int32 → za_M → Prop} : zT L 109 400 [l0, l1, l2, l3] [s0, s1, s2, s3, s4] M Q ↔ zT L 109 401 [l0, l1, l2, l3] [.int (nI 2), s0, s1, s2, s3, s4] M Q := zT_nx rfl
set_option maxRecDepth 100000 in
theorem q109_401 {L : Nat} {l0 l1 l2 l3 s2 s3 s4 s5 : Value} {a b : Int32} {M : za_M} {Q : Int32 → za_M → Prop} : zT L 109 401 [l0, l1, l2, l3] [.int b, .int a, s2, s3, s4, s5] M Q ↔ zT L 109 402 [l0, l1, l2, l3] [.int (a + b), s2, s3, s4, s5] M Q := zT_nx rfl
set_option maxRecDepth 100000 in
theorem q109_402 {L : Nat} {l0 l1 l2 l3 s2 s3 s4 : Value} {i : Int32} {a : Nat} {M : za_M} {Q : Int32 → za_M → Prop} : zT L 109 402 [l0, l1, l2, l3] [.int i, .ref a, s2, s3, s4] M Q ↔ (za_in L a false i ∧ zT L 109 403 [l0, l1, l2, l3] [.int (M a i.toNatClampNeg), s2, s3, s4] M Q) := zT_ld rfl
set_option maxRecDepth 100000 in
theorem q109_403 {L : Nat} {l0 l1 l2 l3 s3 : Value} {a0 a1 : Value} {M : za_M} {Q : Int32 → za_M → Prop} : zT L 109 403 [l0, l1, l2, l3] [a1, a0, .ref 26, s3] M Q ↔ zT L 96 0 [.ref 26, a0, a1] [] M (fun r M1 => zT L 109 406 [l0, l1, l2, l3] [.int r, s3] M1 Q) := zT_c1 rfl (by decide) rfl
set_option maxRecDepth 100000 in
theorem q109_406 {L : Nat} {l0 l1 l2 l3 : Value} {a b : Int32} {M : za_M} {Q : Int32 → za_M → Prop} : zT L 109 406 [l0, l1, l2, l3] [.int b, .int a] M Q ↔ (if a = b then zT L 109 587 [l0, l1, l2, l3] [] M Q else zT L 109 409 [l0, l1, l2, l3] [] M Q) := zT_if rfl
set_option maxRecDepth 100000 in
theorem q109_409 {L : Nat} {l0 l1 l2 l3 : Value} {M : za_M} {Q : Int32 → za_M → Prop} : zT L 109 409 [l0, l1, l2, l3] [] M Q ↔ zT L 109 410 [l0, l1, l2, l3] [.int (nI 0)] M Q := zT_nx rfl
set_option maxRecDepth 100000 in
theorem q109_410 {L : Nat} {l0 l1 l2 l3 : Value} {x : Int32} {M : za_M} {Q : Int32 → za_M → Prop} : zT L 109 410 [l0, l1, l2, l3] [.int x] M Q ↔ ((x = 0 ∨ x = 1) ∧ Q x M) := zT_rb rfl rfl
set_option maxRecDepth 100000 in
theorem q109_411 {L : Nat} {l0 l2 l3 : Value} {x : Nat} {M : za_M} {Q : Int32 → za_M → Prop} : zT L 109 411 [l0, .ref x, l2, l3] [] M Q ↔ zT L 109 412 [l0, .ref x, l2, l3] [.ref x] M Q := zT_nx rfl
set_option maxRecDepth 100000 in
theorem q109_412 {L : Nat} {l1 l2 l3 s0 : Value} {x : Nat} {M : za_M} {Q : Int32 → za_M → Prop} : zT L 109 412 [.ref x, l1, l2, l3] [s0] M Q ↔ zT L 109 413 [.ref x, l1, l2, l3] [.ref x, s0] M Q := zT_nx rfl
set_option maxRecDepth 100000 in
theorem q109_413 {L : Nat} {l0 l1 l2 s0 s1 : Value} {x : Int32} {M : za_M} {Q : Int32 → za_M → Prop} : zT L 109 413 [l0, l1, l2, .int x] [s0, s1] M Q ↔ zT L 109 414 [l0, l1, l2, .int x] [.int x, s0, s1] M Q := zT_nx rfl
set_option maxRecDepth 100000 in
theorem q109_414 {L : Nat} {l0 l1 l2 l3 s0 s1 s2 : Value} {M : za_M} {Q : Int32 → za_M → Prop} : zT L 109 414 [l0, l1, l2, l3] [s0, s1, s2] M Q ↔ zT L 109 415 [l0, l1, l2, l3] [.int (nI 1), s0, s1, s2] M Q := zT_nx rfl
set_option maxRecDepth 100000 in
theorem q109_415 {L : Nat} {l0 l1 l2 l3 s2 s3 : Value} {a b : Int32} {M : za_M} {Q : Int32 → za_M → Prop} : zT L 109 415 [l0, l1, l2, l3] [.int b, .int a, s2, s3] M Q ↔ zT L 109 416 [l0, l1, l2, l3] [.int (a + b), s2, s3] M Q := zT_nx rfl
set_option maxRecDepth 100000 in
theorem q109_416 {L : Nat} {l0 l1 l2 l3 s2 : Value} {i : Int32} {a : Nat} {M : za_M} {Q : Int32 → za_M → Prop} : zT L 109 416 [l0, l1, l2, l3] [.int i, .ref a, s2] M Q ↔ (za_in L a false i ∧ zT L 109 417 [l0, l1, l2, l3] [.int (M a i.toNatClampNeg), s2] M Q) := zT_ld rfl
set_option maxRecDepth 100000 in
theorem q109_417 {L : Nat} {l1 l2 l3 s0 s1 : Value} {x : Nat} {M : za_M} {Q : Int32 → za_M → Prop} : zT L 109 417 [.ref x, l1, l2, l3] [s0, s1] M Q ↔ zT L 109 418 [.ref x, l1, l2, l3] [.ref x, s0, s1] M Q := zT_nx rfl
set_option maxRecDepth 100000 in
theorem q109_418 {L : Nat} {l0 l1 l2 s0 s1 s2 : Value} {x : Int32} {M : za_M} {Q : Int32 → za_M → Prop} : zT L 109 418 [l0, l1, l2, .int x] [s0, s1, s2] M Q ↔ zT L 109 419 [l0, l1, l2, .int x] [.int x, s0, s1, s2] M Q := zT_nx rfl
set_option maxRecDepth 100000 in
theorem q109_419 {L : Nat} {l0 l1 l2 l3 s0 s1 s2 s3 : Value} {M : za_M} {Q : Int32 → za_M → Prop} : zT L 109 419 [l0, l1, l2, l3] [s0, s1, s2, s3] M Q ↔ zT L 109 420 [l0, l1, l2, l3] [.int (nI 2), s0, s1, s2, s3] M Q := zT_nx rfl
set_option maxRecDepth 100000 in
theorem q109_420 {L : Nat} {l0 l1 l2 l3 s2 s3 s4 : Value} {a b : Int32} {M : za_M} {Q : Int32 → za_M → Prop} : zT L 109 420 [l0, l1, l2, l3] [.int b, .int a, s2, s3, s4] M Q ↔ zT L 109 421 [l0, l1, l2, l3] [.int (a + b), s2, s3, s4] M Q := zT_nx rfl
set_option maxRecDepth 100000 in
theorem q109_421 {L : Nat} {l0 l1 l2 l3 s2 s3 : Value} {i : Int32} {a : Nat} {M : za_M} {Q : Int32 → za_M → Prop} : zT L 109 421 [l0, l1, l2, l3] [.int i, .ref a, s2, s3] M Q ↔ (za_in L a false i ∧ zT L 109 422 [l0, l1, l2, l3] [.int (M a i.toNatClampNeg), s2, s3] M Q) := zT_ld rfl
set_option maxRecDepth 100000 in
theorem q109_422 {L : Nat} {l0 l1 l2 l3 s1 s2 : Value} {a : Int32} {M : za_M} {Q : Int32 → za_M → Prop} : zT L 109 422 [l0, l1, l2, l3] [.int a, s1, s2] M Q ↔ (if a = 0 then zT L 109 429 [l0, l1, l2, l3] [s1, s2] M Q else zT L 109 425 [l0, l1, l2, l3] [s1, s2] M Q) := zT_if rfl
set_option maxRecDepth 100000 in
theorem q109_425 {L : Nat} {l0 l1 l2 l3 s0 s1 : Value} {M : za_M} {Q : Int32 → za_M → Prop} : zT L 109 425 [l0, l1, l2, l3] [s0, s1] M Q ↔ zT L 109 426 [l0, l1, l2, l3] [.int (nI 1), s0, s1] M Q := zT_nx rfl
set_option maxRecDepth 100000 in
theorem q109_426 {L : Nat} {l0 l1 l2 l3 s0 s1 s2 : Value} {M : za_M} {Q : Int32 → za_M → Prop} : zT L 109 426 [l0, l1, l2, l3] [s0, s1, s2] M Q ↔ zT L 109 430 [l0, l1, l2, l3] [s0, s1, s2] M Q := zT_nx rfl
set_option maxRecDepth 100000 in
theorem q109_429 {L : Nat} {l0 l1 l2 l3 s0 s1 : Value} {M : za_M} {Q : Int32 → za_M → Prop} : zT L 109 429 [l0, l1, l2, l3] [s0, s1] M Q ↔ zT L 109 430 [l0, l1, l2, l3] [.int (nI 0), s0, s1] M Q := zT_nx rfl
set_option maxRecDepth 100000 in
theorem q109_430 {L : Nat} {l0 l1 l2 l3 : Value} {a0 a1 : Value} {M : za_M} {Q : Int32 → za_M → Prop} : zT L 109 430 [l0, l1, l2, l3] [a1, a0, .ref 0] M Q ↔ zT L 66 0 [.ref 0, a0, a1] [] M (fun r M1 => zT L 109 433 [l0, l1, l2, l3] [.int r] M1 Q) := zT_c1 rfl (by decide) rfl
set_option maxRecDepth 100000 in
theorem q109_433 {L : Nat} {l0 l1 l3 s0 : Value} {x : Nat} {M : za_M} {Q : Int32 → za_M → Prop} : zT L 109 433 [l0, l1, .ref x, l3] [s0] M Q ↔ zT L 109 434 [l0, l1, .ref x, l3] [.ref x, s0] M Q := zT_nx rfl
set_option maxRecDepth 100000 in
theorem q109_434 {L : Nat} {l1 l2 l3 s0 s1 : Value} {x : Nat} {M : za_M} {Q : Int32 → za_M → Prop} : zT L 109 434 [.ref x, l1, l2, l3] [s0, s1] M Q ↔ zT L 109 435 [.ref x, l1, l2, l3] [.ref x, s0, s1] M Q := zT_nx rfl
set_option maxRecDepth 100000 in
theorem q109_435 {L : Nat} {l0 l1 l2 s0 s1 s2 : Value} {x : Int32} {M : za_M} {Q : Int32 → za_M → Prop} : zT L 109 435 [l0, l1, l2, .int x] [s0, s1, s2] M Q ↔ zT L 109 436 [l0, l1, l2, .int x] [.int x, s0, s1, s2] M Q := zT_nx rfl
set_option maxRecDepth 100000 in
theorem q109_436 {L : Nat} {l0 l1 l2 l3 s0 s1 s2 s3 : Value} {M : za_M} {Q : Int32 → za_M → Prop} : zT L 109 436 [l0, l1, l2, l3] [s0, s1, s2, s3] M Q ↔ zT L 109 437 [l0, l1, l2, l3] [.int (nI 1), s0, s1, s2, s3] M Q := zT_nx rfl
set_option maxRecDepth 100000 in
theorem q109_437 {L : Nat} {l0 l1 l2 l3 s2 s3 s4 : Value} {a b : Int32} {M : za_M} {Q : Int32 → za_M → Prop} : zT L 109 437 [l0, l1, l2, l3] [.int b, .int a, s2, s3, s4] M Q ↔ zT L 109 438 [l0, l1, l2, l3] [.int (a + b), s2, s3, s4] M Q := zT_nx rfl
set_option maxRecDepth 100000 in
theorem q109_438 {L : Nat} {l0 l1 l2 l3 s2 s3 : Value} {i : Int32} {a : Nat} {M : za_M} {Q : Int32 → za_M → Prop} : zT L 109 438 [l0, l1, l2, l3] [.int i, .ref a, s2, s3] M Q ↔ (za_in L a false i ∧ zT L 109 439 [l0, l1, l2, l3] [.int (M a i.toNatClampNeg), s2, s3] M Q) := zT_ld rfl
set_option maxRecDepth 100000 in
theorem q109_439 {L : Nat} {l1 l2 l3 s0 s1 s2 : Value} {x : Nat} {M : za_M} {Q : Int32 → za_M → Prop} : zT L 109 439 [.ref x, l1, l2, l3] [s0, s1, s2] M Q ↔ zT L 109 440 [.ref x, l1, l2, l3] [.ref x, s0, s1, s2] M Q := zT_nx rfl
set_option maxRecDepth 100000 in
theorem q109_440 {L : Nat} {l0 l1 l2 s0 s1 s2 s3 : Value} {x : Int32} {M : za_M} {Q : Int32 → za_M → Prop} : zT L 109 440 [l0, l1, l2, .int x] [s0, s1, s2, s3] M Q ↔ zT L 109 441 [l0, l1, l2, .int x] [.int x, s0, s1, s2, s3] M Q := zT_nx rfl
set_option maxRecDepth 100000 in
theorem q109_441 {L : Nat} {l0 l1 l2 l3 s0 s1 s2 s3 s4 : Value} {M : za_M} {Q : Int32 → za_M → Prop} : zT L 109 441 [l0, l1, l2, l3] [s0, s1, s2, s3, s4] M Q ↔ zT L 109 442 [l0, l1, l2, l3] [.int (nI 2), s0, s1, s2, s3, s4] M Q := zT_nx rfl
set_option maxRecDepth 100000 in
theorem q109_442 {L : Nat} {l0 l1 l2 l3 s2 s3 s4 s5 : Value} {a b : Int32} {M : za_M} {Q : Int32 → za_M → Prop} : zT L 109 442 [l0, l1, l2, l3] [.int b, .int a, s2, s3, s4, s5] M Q ↔ zT L 109 443 [l0, l1, l2, l3] [.int (a + b), s2, s3, s4, s5] M Q := zT_nx rfl
set_option maxRecDepth 100000 in
theorem q109_443 {L : Nat} {l0 l1 l2 l3 s2 s3 s4 : Value} {i : Int32} {a : Nat} {M : za_M} {Q : Int32 → za_M → Prop} : zT L 109 443 [l0, l1, l2, l3] [.int i, .ref a, s2, s3, s4] M Q ↔ (za_in L a false i ∧ zT L 109 444 [l0, l1, l2, l3] [.int (M a i.toNatClampNeg), s2, s3, s4] M Q) := zT_ld rfl
set_option maxRecDepth 100000 in
theorem q109_444 {L : Nat} {l0 l1 l2 l3 s1 s2 s3 : Value} {a : Int32} {M : za_M} {Q : Int32 → za_M → Prop} : zT L 109 444 [l0, l1, l2, l3] [.int a, s1, s2, s3] M Q ↔ (if a = 0 then zT L 109 451 [l0, l1, l2, l3] [s1, s2, s3] M Q else zT L 109 447 [l0, l1, l2, l3] [s1, s2, s3] M Q) := zT_if rfl
set_option maxRecDepth 100000 in
theorem q109_447 {L : Nat} {l0 l1 l2 l3 s0 s1 s2 : Value} {M : za_M} {Q : Int32 → za_M → Prop} : zT L 109 447 [l0, l1, l2, l3] [s0, s1, s2] M Q ↔ zT L 109 448 [l0, l1, l2, l3] [.int (nI 1), s0, s1, s2] M Q := zT_nx rfl
set_option maxRecDepth 100000 in
theorem q109_448 {L : Nat} {l0 l1 l2 l3 s0 s1 s2 s3 : Value} {M : za_M} {Q : Int32 → za_M → Prop} : zT L 109 448 [l0, l1, l2, l3] [s0, s1, s2, s3] M Q ↔ zT L 109 452 [l0, l1, l2, l3] [s0, s1, s2, s3] M Q := zT_nx rfl
set_option maxRecDepth 100000 in
theorem q109_451 {L : Nat} {l0 l1 l2 l3 s0 s1 s2 : Value} {M : za_M} {Q : Int32 → za_M → Prop} : zT L 109 451 [l0, l1, l2, l3] [s0, s1, s2] M Q ↔ zT L 109 452 [l0, l1, l2, l3] [.int (nI 0), s0, s1, s2] M Q := zT_nx rfl
set_option maxRecDepth 100000 in
theorem q109_452 {L : Nat} {l0 l1 l2 l3 s3 : Value} {a0 a1 : Value} {M : za_M} {Q : Int32 → za_M → Prop} : zT L 109 452 [l0, l1, l2, l3] [a1, a0, .ref 26, s3] M Q ↔ zT L 97 0 [.ref 26, a0, a1] [] M (fun r M1 => zT L 109 455 [l0, l1, l2, l3] [.int r, s3] M1 Q) := zT_c1 rfl (by decide) rfl
set_option maxRecDepth 100000 in
theorem q109_455 {L : Nat} {l0 l1 l2 l3 : Value} {a b : Int32} {M : za_M} {Q : Int32 → za_M → Prop} : zT L 109 455 [l0, l1, l2, l3] [.int b, .int a] M Q ↔ (if a = b then zT L 109 587 [l0, l1, l2, l3] [] M Q else zT L 109 458 [l0, l1, l2, l3] [] M Q) := zT_if rfl
set_option maxRecDepth 100000 in
theorem q109_458 {L : Nat} {l0 l1 l2 l3 : Value} {M : za_M} {Q : Int32 → za_M → Prop} : zT L 109 458 [l0, l1, l2, l3] [] M Q ↔ zT L 109 459 [l0, l1, l2, l3] [.int (nI 0)] M Q := zT_nx rfl
set_option maxRecDepth 100000 in
theorem q109_459 {L : Nat} {l0 l1 l2 l3 : Value} {x : Int32} {M : za_M} {Q : Int32 → za_M → Prop} : zT L 109 459 [l0, l1, l2, l3] [.int x] M Q ↔ ((x = 0 ∨ x = 1) ∧ Q x M) := zT_rb rfl rfl
set_option maxRecDepth 100000 in
theorem q109_460 {L : Nat} {l0 l2 l3 : Value} {x : Nat} {M : za_M} {Q : Int32 → za_M → Prop} : zT L 109 460 [l0, .ref x, l2, l3] [] M Q ↔ zT L 109 461 [l0, .ref x, l2, l3] [.ref x] M Q := zT_nx rfl
set_option maxRecDepth 100000 in
theorem q109_461 {L : Nat} {l1 l2 l3 s0 : Value} {x : Nat} {M : za_M} {Q : Int32 → za_M → Prop} : zT L 109 461 [.ref x, l1, l2, l3] [s0] M Q ↔ zT L 109 462 [.ref x, l1, l2, l3] [.ref x, s0] M Q := zT_nx rfl
set_option maxRecDepth 100000 in
theorem q109_462 {L : Nat} {l0 l1 l2 s0 s1 : Value} {x : Int32} {M : za_M} {Q : Int32 → za_M → Prop} : zT L 109 462 [l0, l1, l2, .int x] [s0, s1] M Q ↔ zT L 109 463 [l0, l1, l2, .int x] [.int x, s0, s1] M Q := zT_nx rfl
set_option maxRecDepth 100000 in
theorem q109_463 {L : Nat} {l0 l1 l2 l3 s0 s1 s2 : Value} {M : za_M} {Q : Int32 → za_M → Prop} : zT L 109 463 [l0, l1, l2, l3] [s0, s1, s2] M Q ↔ zT L 109 464 [l0, l1, l2, l3] [.int (nI 1), s0, s1, s2] M Q := zT_nx rfl
set_option maxRecDepth 100000 in
theorem q109_464 {L : Nat} {l0 l1 l2 l3 s2 s3 : Value} {a b : Int32} {M : za_M} {Q : Int32 → za_M → Prop} : zT L 109 464 [l0, l1, l2, l3] [.int b, .int a, s2, s3] M Q ↔ zT L 109 465 [l0, l1, l2, l3] [.int (a + b), s2, s3] M Q := zT_nx rfl
set_option maxRecDepth 100000 in
theorem q109_465 {L : Nat} {l0 l1 l2 l3 s2 : Value} {i : Int32} {a : Nat} {M : za_M} {Q : Int32 → za_M → Prop} : zT L 109 465 [l0, l1, l2, l3] [.int i, .ref a, s2] M Q ↔ (za_in L a false i ∧ zT L 109 466 [l0, l1, l2, l3] [.int (M a i.toNatClampNeg), s2] M Q) := zT_ld rfl
set_option maxRecDepth 100000 in
theorem q109_466 {L : Nat} {l1 l2 l3 s0 s1 : Value} {x : Nat} {M : za_M} {Q : Int32 → za_M → Prop} : zT L 109 466 [.ref x, l1, l2, l3] [s0, s1] M Q ↔ zT L 109 467 [.ref x, l1, l2, l3] [.ref x, s0, s1] M Q := zT_nx rfl
set_option maxRecDepth 100000 in
theorem q109_467 {L : Nat} {l0 l1 l2 s0 s1 s2 : Value} {x : Int32} {M : za_M} {Q : Int32 → za_M → Prop} : zT L 109 467 [l0, l1, l2, .int x] [s0, s1, s2] M Q ↔ zT L 109 468 [l0, l1, l2, .int x] [.int x, s0, s1, s2] M Q := zT_nx rfl
set_option maxRecDepth 100000 in
theorem q109_468 {L : Nat} {l0 l1 l2 l3 s0 s1 s2 s3 : Value} {M : za_M} {Q : Int32 → za_M → Prop} : zT L 109 468 [l0, l1, l2, l3] [s0, s1, s2, s3] M Q ↔ zT L 109 469 [l0, l1, l2, l3] [.int (nI 2), s0, s1, s2, s3] M Q := zT_nx rfl
set_option maxRecDepth 100000 in
theorem q109_469 {L : Nat} {l0 l1 l2 l3 s2 s3 s4 : Value} {a b : Int32} {M : za_M} {Q : Int32 → za_M → Prop} : zT L 109 469 [l0, l1, l2, l3] [.int b, .int a, s2, s3, s4] M Q ↔ zT L 109 470 [l0, l1, l2, l3] [.int (a + b), s2, s3, s4] M Q := zT_nx rfl
set_option maxRecDepth 100000 in
theorem q109_470 {L : Nat} {l0 l1 l2 l3 s2 s3 : Value} {i : Int32} {a : Nat} {M : za_M} {Q : Int32 → za_M → Prop} : zT L 109 470 [l0, l1, l2, l3] [.int i, .ref a, s2, s3] M Q ↔ (za_in L a false i ∧ zT L 109 471 [l0, l1, l2, l3] [.int (M a i.toNatClampNeg), s2, s3] M Q) := zT_ld rfl
set_option maxRecDepth 100000 in
theorem q109_471 {L : Nat} {l1 l2 l3 s0 s1 s2 : Value} {x : Nat} {M : za_M} {Q : Int32 → za_M → Prop} : zT L 109 471 [.ref x, l1, l2, l3] [s0, s1, s2] M Q ↔ zT L 109 472 [.ref x, l1, l2, l3] [.ref x, s0, s1, s2] M Q := zT_nx rfl
set_option maxRecDepth 100000 in
theorem q109_472 {L : Nat} {l0 l1 l2 s0 s1 s2 s3 : Value} {x : Int32} {M : za_M} {Q : Int32 → za_M → Prop} : zT L 109 472 [l0, l1, l2, .int x] [s0, s1, s2, s3] M Q ↔ zT L 109 473 [l0, l1, l2, .int x] [.int x, s0, s1, s2, s3] M Q := zT_nx rfl
set_option maxRecDepth 100000 in
theorem q109_473 {L : Nat} {l0 l1 l2 l3 s0 s1 s2 s3 s4 : Value} {M : za_M} {Q : Int32 → za_M → Prop} : zT L 109 473 [l0, l1, l2, l3] [s0, s1, s2, s3, s4] M Q ↔ zT L 109 474 [l0, l1, l2, l3] [.int (nI 3), s0, s1, s2, s3, s4] M Q := zT_nx rfl
set_option maxRecDepth 100000 in
theorem q109_474 {L : Nat} {l0 l1 l2 l3 s2 s3 s4 s5 : Value} {a b : Int32} {M : za_M} {Q : Int32 → za_M → Prop} : zT L 109 474 [l0, l1, l2, l3] [.int b, .int a, s2, s3, s4, s5] M Q ↔ zT L 109 475 [l0, l1, l2, l3] [.int (a + b), s2, s3, s4, s5] M Q := zT_nx rfl
set_option maxRecDepth 100000 in
theorem q109_475 {L : Nat} {l0 l1 l2 l3 s2 s3 s4 : Value} {i : Int32} {a : Nat} {M : za_M} {Q : Int32 → za_M → Prop} : zT L 109 475 [l0, l1, l2, l3] [.int i, .ref a, s2, s3, s4] M Q ↔ (za_in L a false i ∧ zT L 109 476 [l0, l1, l2, l3] [.int (M a i.toNatClampNeg), s2, s3, s4] M Q) := zT_ld rfl
set_option maxRecDepth 100000 in
theorem q109_476 {L : Nat} {l1 l2 l3 s0 s1 s2 s3 : Value} {x : Nat} {M : za_M} {Q : Int32 → za_M → Prop} : zT L 109 476 [.ref x, l1, l2, l3] [s0, s1, s2, s3] M Q ↔ zT L 109 477 [.ref x, l1, l2, l3] [.ref x, s0, s1, s2, s3] M Q := zT_nx rfl
set_option maxRecDepth 100000 in
theorem q109_477 {L : Nat} {l0 l1 l2 s0 s1 s2 s3 s4 : Value} {x : Int32} {M : za_M} {Q : Int32 → za_M → Prop} : zT L 109 477 [l0, l1, l2, .int x] [s0, s1, s2, s3, s4] M Q ↔ zT L 109 478 [l0, l1, l2, .int x] [.int x, s0, s1, s2, s3, s4] M Q := zT_nx rfl
set_option maxRecDepth 100000 in
theorem q109_478 {L : Nat} {l0 l1 l2 l3 s0 s1 s2 s3 s4 s5 : Value} {M : za_M} {Q : Int32 → za_M → Prop} : zT L 109 478 [l0, l1, l2, l3] [s0, s1, s2, s3, s4, s5] M Q ↔ zT L 109 479 [l0, l1, l2, l3] [.int (nI 4), s0, s1, s2, s3, s4, s5] M Q := zT_nx rfl
set_option maxRecDepth 100000 in
theorem q109_479 {L : Nat} {l0 l1 l2 l3 s2 s3 s4 s5 s6 : Value} {a b : Int32} {M : za_M} {Q : Int32 → za_M → Prop} : zT L 109 479 [l0, l1, l2, l3] [.int b, .int a, s2, s3, s4, s5, s6] M Q ↔ zT L 109 480 [l0, l1, l2, l3] [.int (a + b), s2, s3, s4, s5, s6] M Q := zT_nx rfl
set_option maxRecDepth 100000 in
theorem q109_480 {L : Nat} {l0 l1 l2 l3 s2 s3 s4 s5 : Value} {i : Int32} {a : Nat} {M : za_M} {Q : Int32 → za_M → Prop} : zT L 109 480 [l0, l1, l2, l3] [.int i, .ref a, s2, s3, s4, s5] M Q ↔ (za_in L a false i ∧ zT L 109 481 [l0, l1, l2, l3] [.int (M a i.toNatClampNeg), s2, s3, s4, s5] M Q) := zT_ld rfl
set_option maxRecDepth 100000 in
theorem q109_481 {L : Nat} {l1 l2 l3 s0 s1 s2 s3 s4 : Value} {x : Nat} {M : za_M} {Q : Int32 → za_M → Prop} : zT L 109 481 [.ref x, l1, l2, l3] [s0, s1, s2, s3, s4] M Q ↔ zT L 109 482 [.ref x, l1, l2, l3] [.ref x, s0, s1, s2, s3, s4] M Q := zT_nx rfl
set_option maxRecDepth 100000 in
theorem q109_482 {L : Nat} {l0 l1 l2 s0 s1 s2 s3 s4 s5 : Value} {x : Int32} {M : za_M} {Q : Int32 → za_M → Prop} : zT L 109 482 [l0, l1, l2, .int x] [s0, s1, s2, s3, s4, s5] M Q ↔ zT L 109 483 [l0, l1, l2, .int x] [.int x, s0, s1, s2, s3, s4, s5] M Q := zT_nx rfl
set_option maxRecDepth 100000 in
theorem q109_483 {L : Nat} {l0 l1 l2 l3 s0 s1 s2 s3 s4 s5 s6 : Value} {M : za_M} {Q : Int32 → za_M → Prop} : zT L 109 483 [l0, l1, l2, l3] [s0, s1, s2, s3, s4, s5, s6] M Q ↔ zT L 109 484 [l0, l1, l2, l3] [.int (nI 5), s0, s1, s2, s3, s4, s5, s6] M Q := zT_nx rfl
set_option maxRecDepth 100000 in
theorem q109_484 {L : Nat} {l0 l1 l2 l3 s2 s3 s4 s5 s6 s7 : Value} {a b : Int32} {M : za_M} {Q : Int32 → za_M → Prop} : zT L 109 484 [l0, l1, l2, l3] [.int b, .int a, s2, s3, s4, s5, s6, s7] M Q ↔ zT L 109 485 [l0, l1, l2, l3] [.int (a + b), s2, s3, s4, s5, s6, s7] M Q := zT_nx rfl
set_option maxRecDepth 100000 in
theorem q109_485 {L : Nat} {l0 l1 l2 l3 s2 s3 s4 s5 s6 : Value} {i : Int32} {a : Nat} {M : za_M} {Q : Int32 → za_M → Prop} : zT L 109 485 [l0, l1, l2, l3] [.int i, .ref a, s2, s3, s4, s5, s6] M Q ↔ (za_in L a false i ∧ zT L 109 486 [l0, l1, l2, l3] [.int (M a i.toNatClampNeg), s2, s3, s4, s5, s6] M Q) := zT_ld rfl
set_option maxRecDepth 100000 in
theorem q109_486 {L : Nat} {l1 l2 l3 s0 s1 s2 s3 s4 s5 : Value} {x : Nat} {M : za_M} {Q : Int32 → za_M → Prop} : zT L 109 486 [.ref x, l1, l2, l3] [s0, s1, s2, s3, s4, s5] M Q ↔ zT L 109 487 [.ref x, l1, l2, l3] [.ref x, s0, s1, s2, s3, s4, s5] M Q := zT_nx rfl
set_option maxRecDepth 100000 in
theorem q109_487 {L : Nat} {l0 l1 l2 s0 s1 s2 s3 s4 s5 s6 : Value} {x : Int32} {M : za_M} {Q : Int32 → za_M → Prop} : zT L 109 487 [l0, l1, l2, .int x] [s0, s1, s2, s3, s4, s5, s6] M Q ↔ zT L 109 488 [l0, l1, l2, .int x] [.int x, s0, s1, s2, s3, s4, s5, s6] M Q := zT_nx rfl
set_option maxRecDepth 100000 in
theorem q109_488 {L : Nat} {l0 l1 l2 l3 s0 s1 s2 s3 s4 s5 s6 s7 : Value} {M : za_M} {Q : Int32 → za_M → Prop} : zT L 109 488 [l0, l1, l2, l3] [s0, s1, s2, s3, s4, s5, s6, s7] M Q ↔ zT L 109 490 [l0, l1, l2, l3] [.int (nI 6), s0, s1, s2, s3, s4, s5, s6, s7] M Q := zT_nx rfl
set_option maxRecDepth 100000 in
theorem q109_490 {L : Nat} {l0 l1 l2 l3 s2 s3 s4 s5 s6 s7 s8 : Value} {a b : Int32} {M : za_M} {Q : Int32 → za_M → Prop} : zT L 109 490 [l0, l1, l2, l3] [.int b, .int a, s2, s3, s4, s5, s6, s7, s8] M Q ↔ zT L 109 491 [l0, l1, l2, l3] [.int (a + b), s2, s3, s4, s5, s6, s7, s8] M Q := zT_nx rfl
set_option maxRecDepth 100000 in
theorem q109_491 {L : Nat} {l0 l1 l2 l3 s2 s3 s4 s5 s6 s7 : Value} {i : Int32} {a : Nat} {M : za_M} {Q : Int32 → za_M → Prop} : zT L 109 491 [l0, l1, l2, l3] [.int i, .ref a, s2, s3, s4, s5, s6, s7] M Q ↔ (za_in L a false i ∧ zT L 109 492 [l0, l1, l2, l3] [.int (M a i.toNatClampNeg), s2, s3, s4, s5, s6, s7] M Q) := zT_ld rfl
set_option maxRecDepth 100000 in
theorem q109_492 {L : Nat} {l0 l1 l2 l3 s1 s2 s3 s4 s5 s6 : Value} {a : Int32} {M : za_M} {Q : Int32 → za_M → Prop} : zT L 109 492 [l0, l1, l2, l3] [.int a, s1, s2, s3, s4, s5, s6] M Q ↔ (if a = 0 then zT L 109 499 [l0, l1, l2, l3] [s1, s2, s3, s4, s5, s6] M Q else zT L 109 495 [l0, l1, l2, l3] [s1, s2, s3, s4, s5, s6] M Q) := zT_if rfl
set_option maxRecDepth 100000 in
theorem q109_495 {L : Nat} {l0 l1 l2 l3 s0 s1 s2 s3 s4 s5 : Value} {M : za_M} {Q : Int32 → za_M → Prop} : zT L 109 495 [l0, l1, l2, l3] [s0, s1, s2, s3, s4, s5] M Q ↔ zT L 109 496 [l0, l1, l2, l3] [.int (nI 1), s0, s1, s2, s3, s4, s5] M Q := zT_nx rfl
set_option maxRecDepth 100000 in
theorem q109_496 {L : Nat} {l0 l1 l2 l3 s0 s1 s2 s3 s4 s5 s6 : Value} {M : za_M} {Q : Int32 → za_M → Prop} : zT L 109 496 [l0, l1, l2, l3] [s0, s1, s2, s3, s4, s5, s6] M Q ↔ zT L 109 500 [l0, l1, l2, l3] [s0, s1, s2, s3, s4, s5, s6] M Q := zT_nx rfl
set_option maxRecDepth 100000 in
theorem q109_499 {L : Nat} {l0 l1 l2 l3 s0 s1 s2 s3 s4 s5 : Value} {M : za_M} {Q : Int32 → za_M → Prop} : zT L 109 499 [l0, l1, l2, l3] [s0, s1, s2, s3, s4, s5] M Q ↔ zT L 109 500 [l0, l1, l2, l3] [.int (nI 0), s0, s1, s2, s3, s4, s5] M Q := zT_nx rfl
set_option maxRecDepth 100000 in
theorem q109_500 {L : Nat} {l0 l1 l2 l3 : Value} {a0 a1 a2 a3 a4 a5 : Value} {M : za_M} {Q : Int32 → za_M → Prop} : zT L 109 500 [l0, l1, l2, l3] [a5, a4, a3, a2, a1, a0, .ref 0] M Q ↔ zT L 67 0 [.ref 0, a0, a1, a2, a3, a4, a5, .null, .null, .null, .null] [] M (fun r M1 => zT L 109 503 [l0, l1, l2, l3] [.int r] M1 Q) := zT_c1 rfl (by decide) rfl
set_option maxRecDepth 100000 in
theorem q109_503 {L : Nat} {l0 l1 l3 s0 : Value} {x : Nat} {M : za_M} {Q : Int32 → za_M → Prop} : zT L 109 503 [l0, l1, .ref x, l3] [s0] M Q ↔ zT L 109 504 [l0, l1, .ref x, l3] [.ref x, s0] M Q := zT_nx rfl
set_option maxRecDepth 100000 in
theorem q109_504 {L : Nat} {l1 l2 l3 s0 s1 : Value} {x : Nat} {M : za_M} {Q : Int32 → za_M → Prop} : zT L 109 504 [.ref x, l1, l2, l3] [s0, s1] M Q ↔ zT L 109 505 [.ref x, l1, l2, l3] [.ref x, s0, s1] M Q := zT_nx rfl
set_option maxRecDepth 100000 in
theorem q109_505 {L : Nat} {l0 l1 l2 s0 s1 s2 : Value} {x : Int32} {M : za_M} {Q : Int32 → za_M → Prop} : zT L 109 505 [l0, l1, l2, .int x] [s0, s1, s2] M Q ↔ zT L 109 506 [l0, l1, l2, .int x] [.int x, s0, s1, s2] M Q := zT_nx rfl
set_option maxRecDepth 100000 in
theorem q109_506 {L : Nat} {l0 l1 l2 l3 s0 s1 s2 s3 : Value} {M : za_M} {Q : Int32 → za_M → Prop} : zT L 109 506 [l0, l1, l2, l3] [s0, s1, s2, s3] M Q ↔ zT L 109 507 [l0, l1, l2, l3] [.int (nI 1), s0, s1, s2, s3] M Q := zT_nx rfl
set_option maxRecDepth 100000 in
theorem q109_507 {L : Nat} {l0 l1 l2 l3 s2 s3 s4 : Value} {a b : Int32} {M : za_M} {Q : Int32 → za_M → Prop} : zT L 109 507 [l0, l1, l2, l3] [.int b, .int a, s2, s3, s4] M Q ↔ zT L 109 508 [l0, l1, l2, l3] [.int (a + b), s2, s3, s4] M Q := zT_nx rfl
set_option maxRecDepth 100000 in
theorem q109_508 {L : Nat} {l0 l1 l2 l3 s2 s3 : Value} {i : Int32} {a : Nat} {M : za_M} {Q : Int32 → za_M → Prop} : zT L 109 508 [l0, l1, l2, l3] [.int i, .ref a, s2, s3] M Q ↔ (za_in L a false i ∧ zT L 109 509 [l0, l1, l2, l3] [.int (M a i.toNatClampNeg), s2, s3] M Q) := zT_ld rfl
set_option maxRecDepth 100000 in
theorem q109_509 {L : Nat} {l1 l2 l3 s0 s1 s2 : Value} {x : Nat} {M : za_M} {Q : Int32 → za_M → Prop} : zT L 109 509 [.ref x, l1, l2, l3] [s0, s1, s2] M Q ↔ zT L 109 510 [.ref x, l1, l2, l3] [.ref x, s0, s1, s2] M Q := zT_nx rfl
set_option maxRecDepth 100000 in
theorem q109_510 {L : Nat} {l0 l1 l2 s0 s1 s2 s3 : Value} {x : Int32} {M : za_M} {Q : Int32 → za_M → Prop} : zT L 109 510 [l0, l1, l2, .int x] [s0, s1, s2, s3] M Q ↔ zT L 109 511 [l0, l1, l2, .int x] [.int x, s0, s1, s2, s3] M Q := zT_nx rfl
set_option maxRecDepth 100000 in
theorem q109_511 {L : Nat} {l0 l1 l2 l3 s0 s1 s2 s3 s4 : Value} {M : za_M} {Q : Int32 → za_M → Prop} : zT L 109 511 [l0, l1, l2, l3] [s0, s1, s2, s3, s4] M Q ↔ zT L 109 512 [l0, l1, l2, l3] [.int (nI 2), s0, s1, s2, s3, s4] M Q := zT_nx rfl
set_option maxRecDepth 100000 in
theorem q109_512 {L : Nat} {l0 l1 l2 l3 s2 s3 s4 s5 : Value} {a b : Int32} {M : za_M} {Q : Int32 → za_M → Prop} : zT L 109 512 [l0, l1, l2, l3] [.int b, .int a, s2, s3, s4, s5] M Q ↔ zT L 109 513 [l0, l1, l2, l3] [.int (a + b), s2, s3, s4, s5] M Q := zT_nx rfl
set_option maxRecDepth 100000 in
theorem q109_513 {L : Nat} {l0 l1 l2 l3 s2 s3 s4 : Value} {i : Int32} {a : Nat} {M : za_M} {Q : Int32 → za_M → Prop} : zT L 109 513 [l0, l1, l2, l3] [.int i, .ref a, s2, s3, s4] M Q ↔ (za_in L a false i ∧ zT L 109 514 [l0, l1, l2, l3] [.int (M a i.toNatClampNeg), s2, s3, s4] M Q) := zT_ld rfl
set_option maxRecDepth 100000 in
theorem q109_514 {L : Nat} {l1 l2 l3 s0 s1 s2 s3 : Value} {x : Nat} {M : za_M} {Q : Int32 → za_M → Prop} : zT L 109 514 [.ref x, l1, l2, l3] [s0, s1, s2, s3] M Q ↔ zT L 109 515 [.ref x, l1, l2, l3] [.ref x, s0, s1, s2, s3] M Q := zT_nx rfl
set_option maxRecDepth 100000 in
theorem q109_515 {L : Nat} {l0 l1 l2 s0 s1 s2 s3 s4 : Value} {x : Int32} {M : za_M} {Q : Int32 → za_M → Prop} : zT L 109 515 [l0, l1, l2, .int x] [s0, s1, s2, s3, s4] M Q ↔ zT L 109 516 [l0, l1, l2, .int x] [.int x, s0, s1, s2, s3, s4] M Q := zT_nx rfl
set_option maxRecDepth 100000 in
theorem q109_516 {L : Nat} {l0 l1 l2 l3 s0 s1 s2 s3 s4 s5 : Value} {M : za_M} {Q : Int32 → za_M → Prop} : zT L 109 516 [l0, l1, l2, l3] [s0, s1, s2, s3, s4, s5] M Q ↔ zT L 109 517 [l0, l1, l2, l3] [.int (nI 3), s0, s1, s2, s3, s4, s5] M Q := zT_nx rfl
set_option maxRecDepth 100000 in
theorem q109_517 {L : Nat} {l0 l1 l2 l3 s2 s3 s4 s5 s6 : Value} {a b : Int32} {M : za_M} {Q : Int32 → za_M → Prop} : zT L 109 517 [l0, l1, l2, l3] [.int b, .int a, s2, s3, s4, s5, s6] M Q ↔ zT L 109 518 [l0, l1, l2, l3] [.int (a + b), s2, s3, s4, s5, s6] M Q := zT_nx rfl
set_option maxRecDepth 100000 in
theorem q109_518 {L : Nat} {l0 l1 l2 l3 s2 s3 s4 s5 : Value} {i : Int32} {a : Nat} {M : za_M} {Q : Int32 → za_M → Prop} : zT L 109 518 [l0, l1, l2, l3] [.int i, .ref a, s2, s3, s4, s5] M Q ↔ (za_in L a false i ∧ zT L 109 519 [l0, l1, l2, l3] [.int (M a i.toNatClampNeg), s2, s3, s4, s5] M Q) := zT_ld rfl
set_option maxRecDepth 100000 in
theorem q109_519 {L : Nat} {l1 l2 l3 s0 s1 s2 s3 s4 : Value} {x : Nat} {M : za_M} {Q : Int32 → za_M → Prop} : zT L 109 519 [.ref x, l1, l2, l3] [s0, s1, s2, s3, s4] M Q ↔ zT L 109 520 [.ref x, l1, l2, l3] [.ref x, s0, s1, s2, s3, s4] M Q := zT_nx rfl
set_option maxRecDepth 100000 in
theorem q109_520 {L : Nat} {l0 l1 l2 s0 s1 s2 s3 s4 s5 : Value} {x : Int32} {M : za_M} {Q : Int32 → za_M → Prop} : zT L 109 520 [l0, l1, l2, .int x] [s0, s1, s2, s3, s4, s5] M Q ↔ zT L 109 521 [l0, l1, l2, .int x] [.int x, s0, s1, s2, s3, s4, s5] M Q := zT_nx rfl
set_option maxRecDepth 100000 in
theorem q109_521 {L : Nat} {l0 l1 l2 l3 s0 s1 s2 s3 s4 s5 s6 : Value} {M : za_M} {Q : Int32 → za_M → Prop} : zT L 109 521 [l0, l1, l2, l3] [s0, s1, s2, s3, s4, s5, s6] M Q ↔ zT L 109 522 [l0, l1, l2, l3] [.int (nI 4), s0, s1, s2, s3, s4, s5, s6] M Q := zT_nx rfl
set_option maxRecDepth 100000 in
theorem q109_522 {L : Nat} {l0 l1 l2 l3 s2 s3 s4 s5 s6 s7 : Value} {a b : Int32} {M : za_M} {Q : Int32 → za_M → Prop} : zT L 109 522 [l0, l1, l2, l3] [.int b, .int a, s2, s3, s4, s5, s6, s7] M Q ↔ zT L 109 523 [l0, l1, l2, l3] [.int (a + b), s2, s3, s4, s5, s6, s7] M Q := zT_nx rfl
set_option maxRecDepth 100000 in
theorem q109_523 {L : Nat} {l0 l1 l2 l3 s2 s3 s4 s5 s6 : Value} {i : Int32} {a : Nat} {M : za_M} {Q : Int32 → za_M → Prop} : zT L 109 523 [l0, l1, l2, l3] [.int i, .ref a, s2, s3, s4, s5, s6] M Q ↔ (za_in L a false i ∧ zT L 109 524 [l0, l1, l2, l3] [.int (M a i.toNatClampNeg), s2, s3, s4, s5, s6] M Q) := zT_ld rfl
set_option maxRecDepth 100000 in
theorem q109_524 {L : Nat} {l1 l2 l3 s0 s1 s2 s3 s4 s5 : Value} {x : Nat} {M : za_M} {Q : Int32 → za_M → Prop} : zT L 109 524 [.ref x, l1, l2, l3] [s0, s1, s2, s3, s4, s5] M Q ↔ zT L 109 525 [.ref x, l1, l2, l3] [.ref x, s0, s1, s2, s3, s4, s5] M Q := zT_nx rfl
set_option maxRecDepth 100000 in
theorem q109_525 {L : Nat} {l0 l1 l2 s0 s1 s2 s3 s4 s5 s6 : Value} {x : Int32} {M : za_M} {Q : Int32 → za_M → Prop} : zT L 109 525 [l0, l1, l2, .int x] [s0, s1, s2, s3, s4, s5, s6] M Q ↔ zT L 109 526 [l0, l1, l2, .int x] [.int x, s0, s1, s2, s3, s4, s5, s6] M Q := zT_nx rfl
set_option maxRecDepth 100000 in
theorem q109_526 {L : Nat} {l0 l1 l2 l3 s0 s1 s2 s3 s4 s5 s6 s7 : Value} {M : za_M} {Q : Int32 → za_M → Prop} : zT L 109 526 [l0, l1, l2, l3] [s0, s1, s2, s3, s4, s5, s6, s7] M Q ↔ zT L 109 527 [l0, l1, l2, l3] [.int (nI 5), s0, s1, s2, s3, s4, s5, s6, s7] M Q := zT_nx rfl
set_option maxRecDepth 100000 in
theorem q109_527 {L : Nat} {l0 l1 l2 l3 s2 s3 s4 s5 s6 s7 s8 : Value} {a b : Int32} {M : za_M} {Q : Int32 → za_M → Prop} : zT L 109 527 [l0, l1, l2, l3] [.int b, .int a, s2, s3, s4, s5, s6, s7, s8] M Q ↔ zT L 109 528 [l0, l1, l2, l3] [.int (a + b), s2, s3, s4, s5, s6, s7, s8] M Q := zT_nx rfl
set_option maxRecDepth 100000 in
theorem q109_528 {L : Nat} {l0 l1 l2 l3 s2 s3 s4 s5 s6 s7 : Value} {i : Int32} {a : Nat} {M : za_M} {Q : Int32 → za_M → Prop} : zT L 109 528 [l0, l1, l2, l3] [.int i, .ref a, s2, s3, s4, s5, s6, s7] M Q ↔ (za_in L a false i ∧ zT L 109 529 [l0, l1, l2, l3] [.int (M a i.toNatClampNeg), s2, s3, s4, s5, s6, s7] M Q) := zT_ld rfl
set_option maxRecDepth 100000 in
theorem q109_529 {L : Nat} {l1 l2 l3 s0 s1 s2 s3 s4 s5 s6 : Value} {x : Nat} {M : za_M} {Q : Int32 → za_M → Prop} : zT L 109 529 [.ref x, l1, l2, l3] [s0, s1, s2, s3, s4, s5, s6] M Q ↔ zT L 109 530 [.ref x, l1, l2, l3] [.ref x, s0, s1, s2, s3, s4, s5, s6] M Q := zT_nx rfl
set_option maxRecDepth 100000 in
theorem q109_530 {L : Nat} {l0 l1 l2 s0 s1 s2 s3 s4 s5 s6 s7 : Value} {x : Int32} {M : za_M} {Q : Int32 → za_M → Prop} : zT L 109 530 [l0, l1, l2, .int x] [s0, s1, s2, s3, s4, s5, s6, s7] M Q ↔ zT L 109 531 [l0, l1, l2, .int x] [.int x, s0, s1, s2, s3, s4, s5, s6, s7] M Q := zT_nx rfl
set_option maxRecDepth 100000 in
theorem q109_531 {L : Nat} {l0 l1 l2 l3 s0 s1 s2 s3 s4 s5 s6 s7 s8 : Value} {M : za_M} {Q : Int32 → za_M → Prop} : zT L 109 531 [l0, l1, l2, l3] [s0, s1, s2, s3, s4, s5, s6, s7, s8] M Q ↔ zT L 109 533 [l0, l1, l2, l3] [.int (nI 6), s0, s1, s2, s3, s4, s5, s6, s7, s8] M Q := zT_nx rfl
set_option maxRecDepth 100000 in
theorem q109_533 {L : Nat} {l0 l1 l2 l3 s2 s3 s4 s5 s6 s7 s8 s9 : Value} {a b : Int32} {M : za_M} {Q : Int32 → za_M → Prop} : zT L 109 533 [l0, l1, l2, l3] [.int b, .int a, s2, s3, s4, s5, s6, s7, s8, s9] M Q ↔ zT L 109 534 [l0, l1, l2, l3] [.int (a + b), s2, s3, s4, s5, s6, s7, s8, s9] M Q := zT_nx rfl
set_option maxRecDepth 100000 in
theorem q109_534 {L : Nat} {l0 l1 l2 l3 s2 s3 s4 s5 s6 s7 s8 : Value} {i : Int32} {a : Nat} {M : za_M} {Q : Int32 → za_M → Prop} : zT L 109 534 [l0, l1, l2, l3] [.int i, .ref a, s2, s3, s4, s5, s6, s7, s8] M Q ↔ (za_in L a false i ∧ zT L 109 535 [l0, l1, l2, l3] [.int (M a i.toNatClampNeg), s2, s3, s4, s5, s6, s7, s8] M Q) := zT_ld rfl
set_option maxRecDepth 100000 in
theorem q109_535 {L : Nat} {l0 l1 l2 l3 s1 s2 s3 s4 s5 s6 s7 : Value} {a : Int32} {M : za_M} {Q : Int32 → za_M → Prop} : zT L 109 535 [l0, l1, l2, l3] [.int a, s1, s2, s3, s4, s5, s6, s7] M Q ↔ (if a = 0 then zT L 109 542 [l0, l1, l2, l3] [s1, s2, s3, s4, s5, s6, s7] M Q else zT L 109 538 [l0, l1, l2, l3] [s1, s2, s3, s4, s5, s6, s7] M Q) := zT_if rfl
set_option maxRecDepth 100000 in
theorem q109_538 {L : Nat} {l0 l1 l2 l3 s0 s1 s2 s3 s4 s5 s6 : Value} {M : za_M} {Q : Int32 → za_M → Prop} : zT L 109 538 [l0, l1, l2, l3] [s0, s1, s2, s3, s4, s5, s6] M Q ↔ zT L 109 539 [l0, l1, l2, l3] [.int (nI 1), s0, s1, s2, s3, s4, s5, s6] M Q := zT_nx rfl
set_option maxRecDepth 100000 in
theorem q109_539 {L : Nat} {l0 l1 l2 l3 s0 s1 s2 s3 s4 s5 s6 s7 : Value} {M : za_M} {Q : Int32 → za_M → Prop} : zT L 109 539 [l0, l1, l2, l3] [s0, s1, s2, s3, s4, s5, s6, s7] M Q ↔ zT L 109 543 [l0, l1, l2, l3] [s0, s1, s2, s3, s4, s5, s6, s7] M Q := zT_nx rfl
set_option maxRecDepth 100000 in
theorem q109_542 {L : Nat} {l0 l1 l2 l3 s0 s1 s2 s3 s4 s5 s6 : Value} {M : za_M} {Q : Int32 → za_M → Prop} : zT L 109 542 [l0, l1, l2, l3] [s0, s1, s2, s3, s4, s5, s6] M Q ↔ zT L 109 543 [l0, l1, l2, l3] [.int (nI 0), s0, s1, s2, s3, s4, s5, s6] M Q := zT_nx rfl
set_option maxRecDepth 100000 in
theorem q109_543 {L : Nat} {l0 l1 l2 l3 s7 : Value} {a0 a1 a2 a3 a4 a5 : Value} {M : za_M} {Q : Int32 → za_M → Prop} : zT L 109 543 [l0, l1, l2, l3] [a5, a4, a3, a2, a1, a0, .ref 26, s7] M Q ↔ zT L 106 0 [.ref 26, a0, a1, a2, a3, a4, a5, .null, .null, .null, .null, .null] [] M (fun r M1 => zT L 109 546 [l0, l1, l2, l3] [.int r, s7] M1 Q) := zT_c1 rfl (by decide) rfl
set_option maxRecDepth 100000 in
theorem q109_546 {L : Nat} {l0 l1 l2 l3 : Value} {a b : Int32} {M : za_M} {Q : Int32 → za_M → Prop} : zT L 109 546 [l0, l1, l2, l3] [.int b, .int a] M Q ↔ (if a = b then zT L 109 587 [l0, l1, l2, l3] [] M Q else zT L 109 549 [l0, l1, l2, l3] [] M Q) := zT_if rfl
set_option maxRecDepth 100000 in
theorem q109_549 {L : Nat} {l0 l1 l2 l3 : Value} {M : za_M} {Q : Int32 → za_M → Prop} : zT L 109 549 [l0, l1, l2, l3] [] M Q ↔ zT L 109 550 [l0, l1, l2, l3] [.int (nI 0)] M Q := zT_nx rfl
set_option maxRecDepth 100000 in
theorem q109_550 {L : Nat} {l0 l1 l2 l3 : Value} {x : Int32} {M : za_M} {Q : Int32 → za_M → Prop} : zT L 109 550 [l0, l1, l2, l3] [.int x] M Q ↔ ((x = 0 ∨ x = 1) ∧ Q x M) := zT_rb rfl rfl
set_option maxRecDepth 100000 in
theorem q109_551 {L : Nat} {l0 l2 l3 : Value} {x : Nat} {M : za_M} {Q : Int32 → za_M → Prop} : zT L 109 551 [l0, .ref x, l2, l3] [] M Q ↔ zT L 109 552 [l0, .ref x, l2, l3] [.ref x] M Q := zT_nx rfl
set_option maxRecDepth 100000 in
theorem q109_552 {L : Nat} {l0 l1 l2 l3 : Value} {M : za_M} {Q : Int32 → za_M → Prop} : zT L 109 552 [l0, l1, l2, l3] [.ref 0] M Q ↔ zT L 68 0 [.ref 0] [] M (fun r M1 => zT L 109 555 [l0, l1, l2, l3] [.int r] M1 Q) := zT_c1 rfl (by decide) rfl
set_option maxRecDepth 100000 in
theorem q109_555 {L : Nat} {l0 l1 l3 s0 : Value} {x : Nat} {M : za_M} {Q : Int32 → za_M → Prop} : zT L 109 555 [l0, l1, .ref x, l3] [s0] M Q ↔ zT L 109 556 [l0, l1, .ref x, l3] [.ref x, s0] M Q := zT_nx rfl
set_option maxRecDepth 100000 in
theorem q109_556 {L : Nat} {l0 l1 l2 l3 s1 : Value} {M : za_M} {Q : Int32 → za_M → Prop} : zT L 109 556 [l0, l1, l2, l3] [.ref 26, s1] M Q ↔ zT L 107 0 [.ref 26] [] M (fun r M1 => zT L 109 559 [l0, l1, l2, l3] [.int r, s1] M1 Q) := zT_c1 rfl (by decide) rfl
set_option maxRecDepth 100000 in
theorem q109_559 {L : Nat} {l0 l1 l2 l3 : Value} {a b : Int32} {M : za_M} {Q : Int32 → za_M → Prop} : zT L 109 559 [l0, l1, l2, l3] [.int b, .int a] M Q ↔ (if a = b then zT L 109 587 [l0, l1, l2, l3] [] M Q else zT L 109 562 [l0, l1, l2, l3] [] M Q) := zT_if rfl
set_option maxRecDepth 100000 in
theorem q109_562 {L : Nat} {l0 l1 l2 l3 : Value} {M : za_M} {Q : Int32 → za_M → Prop} : zT L 109 562 [l0, l1, l2, l3] [] M Q ↔ zT L 109 563 [l0, l1, l2, l3] [.int (nI 0)] M Q := zT_nx rfl
set_option maxRecDepth 100000 in
theorem q109_563 {L : Nat} {l0 l1 l2 l3 : Value} {x : Int32} {M : za_M} {Q : Int32 → za_M → Prop} : zT L 109 563 [l0, l1, l2, l3] [.int x] M Q ↔ ((x = 0 ∨ x = 1) ∧ Q x M) := zT_rb rfl rfl
set_option maxRecDepth 100000 in
theorem q109_564 {L : Nat} {l0 l2 l3 : Value} {x : Nat} {M : za_M} {Q : Int32 → za_M → Prop} : zT L 109 564 [l0, .ref x, l2, l3] [] M Q ↔ zT L 109 565 [l0, .ref x, l2, l3] [.ref x] M Q := zT_nx rfl
set_option maxRecDepth 100000 in
theorem q109_565 {L : Nat} {l1 l2 l3 s0 : Value} {x : Nat} {M : za_M} {Q : Int32 → za_M → Prop} : zT L 109 565 [.ref x, l1, l2, l3] [s0] M Q ↔ zT L 109 566 [.ref x, l1, l2, l3] [.ref x, s0] M Q := zT_nx rfl
set_option maxRecDepth 100000 in
theorem q109_566 {L : Nat} {l0 l1 l2 s0 s1 : Value} {x : Int32} {M : za_M} {Q : Int32 → za_M → Prop} : zT L 109 566 [l0, l1, l2, .int x] [s0, s1] M Q ↔ zT L 109 567 [l0, l1, l2, .int x] [.int x, s0, s1] M Q := zT_nx rfl
set_option maxRecDepth 100000 in
theorem q109_567 {L : Nat} {l0 l1 l2 l3 s0 s1 s2 : Value} {M : za_M} {Q : Int32 → za_M → Prop} : zT L 109 567 [l0, l1, l2, l3] [s0, s1, s2] M Q ↔ zT L 109 568 [l0, l1, l2, l3] [.int (nI 1), s0, s1, s2] M Q := zT_nx rfl
set_option maxRecDepth 100000 in
theorem q109_568 {L : Nat} {l0 l1 l2 l3 s2 s3 : Value} {a b : Int32} {M : za_M} {Q : Int32 → za_M → Prop} : zT L 109 568 [l0, l1, l2, l3] [.int b, .int a, s2, s3] M Q ↔ zT L 109 569 [l0, l1, l2, l3] [.int (a + b), s2, s3] M Q := zT_nx rfl
set_option maxRecDepth 100000 in
theorem q109_569 {L : Nat} {l0 l1 l2 l3 s2 : Value} {i : Int32} {a : Nat} {M : za_M} {Q : Int32 → za_M → Prop} : zT L 109 569 [l0, l1, l2, l3] [.int i, .ref a, s2] M Q ↔ (za_in L a false i ∧ zT L 109 570 [l0, l1, l2, l3] [.int (M a i.toNatClampNeg), s2] M Q) := zT_ld rfl
set_option maxRecDepth 100000 in
theorem q109_570 {L : Nat} {l0 l1 l2 l3 : Value} {a0 : Value} {M : za_M} {Q : Int32 → za_M → Prop} : zT L 109 570 [l0, l1, l2, l3] [a0, .ref 0] M Q ↔ zT L 69 0 [.ref 0, a0] [] M (fun r M1 => zT L 109 573 [l0, l1, l2, l3] [.int r] M1 Q) := zT_c1 rfl (by decide) rfl
set_option maxRecDepth 100000 in
theorem q109_573 {L : Nat} {l0 l1 l3 s0 : Value} {x : Nat} {M : za_M} {Q : Int32 → za_M → Prop} : zT L 109 573 [l0, l1, .ref x, l3] [s0] M Q ↔ zT L 109 574 [l0, l1, .ref x, l3] [.ref x, s0] M Q := zT_nx rfl
set_option maxRecDepth 100000 in
theorem q109_574 {L : Nat} {l1 l2 l3 s0 s1 : Value} {x : Nat} {M : za_M} {Q : Int32 → za_M → Prop} : zT L 109 574 [.ref x, l1, l2, l3] [s0, s1] M Q ↔ zT L 109 575 [.ref x, l1, l2, l3] [.ref x, s0, s1] M Q := zT_nx rfl
set_option maxRecDepth 100000 in
theorem q109_575 {L : Nat} {l0 l1 l2 s0 s1 s2 : Value} {x : Int32} {M : za_M} {Q : Int32 → za_M → Prop} : zT L 109 575 [l0, l1, l2, .int x] [s0, s1, s2] M Q ↔ zT L 109 576 [l0, l1, l2, .int x] [.int x, s0, s1, s2] M Q := zT_nx rfl
set_option maxRecDepth 100000 in
theorem q109_576 {L : Nat} {l0 l1 l2 l3 s0 s1 s2 s3 : Value} {M : za_M} {Q : Int32 → za_M → Prop} : zT L 109 576 [l0, l1, l2, l3] [s0, s1, s2, s3] M Q ↔ zT L 109 577 [l0, l1, l2, l3] [.int (nI 1), s0, s1, s2, s3] M Q := zT_nx rfl
set_option maxRecDepth 100000 in
theorem q109_577 {L : Nat} {l0 l1 l2 l3 s2 s3 s4 : Value} {a b : Int32} {M : za_M} {Q : Int32 → za_M → Prop} : zT L 109 577 [l0, l1, l2, l3] [.int b, .int a, s2, s3, s4] M Q ↔ zT L 109 578 [l0, l1, l2, l3] [.int (a + b), s2, s3, s4] M Q := zT_nx rfl
set_option maxRecDepth 100000 in
theorem q109_578 {L : Nat} {l0 l1 l2 l3 s2 s3 : Value} {i : Int32} {a : Nat} {M : za_M} {Q : Int32 → za_M → Prop} : zT L 109 578 [l0, l1, l2, l3] [.int i, .ref a, s2, s3] M Q ↔ (za_in L a false i ∧ zT L 109 579 [l0, l1, l2, l3] [.int (M a i.toNatClampNeg), s2, s3] M Q) := zT_ld rfl
set_option maxRecDepth 100000 in
theorem q109_579 {L : Nat} {l0 l1 l2 l3 s2 : Value} {a0 : Value} {M : za_M} {Q : Int32 → za_M → Prop} : zT L 109 579 [l0, l1, l2, l3] [a0, .ref 26, s2] M Q ↔ zT L 108 0 [.ref 26, a0] [] M (fun r M1 => zT L 109 582 [l0, l1, l2, l3] [.int r, s2] M1 Q) := zT_c1 rfl (by decide) rfl
set_option maxRecDepth 100000 in
theorem q109_582 {L : Nat} {l0 l1 l2 l3 : Value} {a b : Int32} {M : za_M} {Q : Int32 → za_M → Prop} : zT L 109 582 [l0, l1, l2, l3] [.int b, .int a] M Q ↔ (if a = b then zT L 109 587 [l0, l1, l2, l3] [] M Q else zT L 109 585 [l0, l1, l2, l3] [] M Q) := zT_if rfl
set_option maxRecDepth 100000 in
theorem q109_585 {L : Nat} {l0 l1 l2 l3 : Value} {M : za_M} {Q : Int32 → za_M → Prop} : zT L 109 585 [l0, l1, l2, l3] [] M Q ↔ zT L 109 586 [l0, l1, l2, l3] [.int (nI 0)] M Q := zT_nx rfl
set_option maxRecDepth 100000 in
theorem q109_586 {L : Nat} {l0 l1 l2 l3 : Value} {x : Int32} {M : za_M} {Q : Int32 → za_M → Prop} : zT L 109 586 [l0, l1, l2, l3] [.int x] M Q ↔ ((x = 0 ∨ x = 1) ∧ Q x M) := zT_rb rfl rfl
set_option maxRecDepth 100000 in
theorem q109_587 {L : Nat} {l0 l1 l2 : Value} {x : Int32} {M : za_M} {Q : Int32 → za_M → Prop} : zT L 109 587 [l0, l1, l2, .int x] [] M Q ↔ zT L 109 590 [l0, l1, l2, .int (x + nI 7)] [] M Q := zT_nx rfl
set_option maxRecDepth 100000 in
theorem q109_590 {L : Nat} {l0 l1 l2 l3 : Value} {M : za_M} {Q : Int32 → za_M → Prop} : zT L 109 590 [l0, l1, l2, l3] [] M Q ↔ zT L 109 18 [l0, l1, l2, l3] [] M Q := zT_nx rfl
set_option maxRecDepth 100000 in
theorem q109_593 {L : Nat} {l0 l1 l2 l3 : Value} {M : za_M} {Q : Int32 → za_M → Prop} : zT L 109 593 [l0, l1, l2, l3] [] M Q ↔ zT L 109 594 [l0, l1, l2, l3] [.int (nI 1)] M Q := zT_nx rfl
set_option maxRecDepth 100000 in
theorem q109_594 {L : Nat} {l0 l1 l2 l3 : Value} {x : Int32} {M : za_M} {Q : Int32 → za_M → Prop} : zT L 109 594 [l0, l1, l2, l3] [.int x] M Q ↔ ((x = 0 ∨ x = 1) ∧ Q x M) := zT_rb rfl rfl
