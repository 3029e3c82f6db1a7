/-! the small methods of the class -/
section ZA
variable {L : Nat} {M : za_M} {Q : Int32 → za_M → Prop} {h : Nat}
theorem s71 {x : Int32} : zT L 71 0 [.int x] [] M Q ↔ Q (zB (¬ x < 0 ∧ ¬ nI 8 ≤ x)) M := by
  simp only [q71_0, q71_1, q71_4, q71_5, q71_7, q71_10, q71_11, q71_14, q71_15, zb1, zb0]
  by_cases h1 : x < 0 <;> by_cases h2 : nI 8 ≤ x <;> simp [h1, h2, zB]
theorem s72 {x : Int32} : zT L 72 0 [.int x] [] M Q ↔ Q (zB (¬ x < 0 ∧ ¬ nI 2 ≤ x)) M := by
  simp only [q72_0, q72_1, q72_4, q72_5, q72_6, q72_9, q72_10, q72_13, q72_14, zb1, zb0]
  by_cases h1 : x < 0 <;> by_cases h2 : nI 2 ≤ x <;> simp [h1, h2, zB]
theorem s73 {x : Int32} : zT L 73 0 [.int x] [] M Q ↔ Q (zB (¬ x < 0 ∧ ¬ nI 6 < x)) M := by
  simp only [q73_0, q73_1, q73_4, q73_5, q73_7, q73_10, q73_11, q73_14, q73_15, zb1, zb0]
  by_cases h1 : x < 0 <;> by_cases h2 : nI 6 < x <;> simp [h1, h2, zB]
theorem s74 {x : Int32} : zT L 74 0 [.int x] [] M Q ↔ Q (zB (¬ x < nI 1 ∧ ¬ nI 5 < x)) M := by
  simp only [q74_0, q74_1, q74_2, q74_5, q74_6, q74_7, q74_10, q74_11, q74_14, q74_15, zb1, zb0]
  by_cases h1 : x < nI 1 <;> by_cases h2 : nI 5 < x <;> simp [h1, h2, zB]
theorem s3 (hH : za_H h) : zT L 3 0 [.ref h] [] M Q ↔ Q (M h 3) M := by
  simp only [q3_0, q3_1, q3_4, hH]
theorem s4 (hH : za_H h) {x : Int32} : zT L 4 0 [.ref h, .int x] [] M Q ↔ Q (zB (¬ x < 0 ∧ ¬ M h 3 ≤ x)) M := by
  simp only [q4_0, q4_1, q4_4, q4_5, q4_6, q4_9, q4_12, q4_13, q4_16, q4_17, zb1, zb0, hH]
  by_cases h1 : x < 0 <;> by_cases h2 : M h 3 ≤ x <;> simp [h1, h2, zB]
theorem s5 (hH : za_H h) {x : Int32} : zT L 5 0 [.ref h, .int x] [] M Q ↔ Q (zB (x = zN ∨ (¬ x < 0 ∧ ¬ M h 3 ≤ x))) M := by
  simp only [q5_0, q5_1, q5_3, q5_6, q5_7, q5_8, q5_11, q5_14, q5_15, q5_18, q5_19, zb1, zb0, hH, s4, zB_0]
  by_cases h0 : x = zN <;> by_cases h1 : x < 0 <;> by_cases h2 : M h 3 ≤ x <;> simp [h0, h1, h2, zB]
theorem s7 (hH : za_H h) {n k : Nat} (hn : M h 3 = nI n) (h24 : n ≤ 24) (hk : k < n) : zT L 7 0 [.ref h, .int (nI k)] [] M Q ↔ Q (M (h + 1) k) M := by
  have e1 : ¬ nI k < 0 := nI_pos (by omega)
  have e2 : ¬ nI n ≤ nI k := nI_ge hk (by omega)
  have e3 : (nI k).toNatClampNeg = k := nI_clamp (by omega)
  have e4 : za_in L (h + 1) false (nI k) := za_in_of (za_Hk hH).1 (by omega) (by omega)
  simp only [q7_0, q7_1, q7_2, q7_5, q7_8, q7_9, q7_12, q7_13, q7_14, q7_17, q7_18, hH, s4, zB_0, hn, e1, e2, e3, e4, not_false_eq_true, and_self, not_true_eq_false, if_false, true_and]
theorem s8 (hH : za_H h) {n k : Nat} {x : Int32} (hn : M h 3 = nI n) (h24 : n ≤ 24) (hk : k < n) : zT L 8 0 [.ref h, .int (nI k), .int x] [] M Q ↔ Q 0 (za_up M (h + 1) k x) := by
  have e1 : ¬ nI k < 0 := nI_pos (by omega)
  have e2 : ¬ nI n ≤ nI k := nI_ge hk (by omega)
  have e3 : (nI k).toNatClampNeg = k := nI_clamp (by omega)
  have e4 : za_in L (h + 1) false (nI k) := za_in_of (za_Hk hH).1 (by omega) (by omega)
  have e5 : h + 1 < 42 := by have := (za_Hk (L := L) hH).2.2.2.2.2.1; omega
  simp only [q8_0, q8_1, q8_2, q8_5, q8_8, q8_9, q8_12, q8_13, q8_14, q8_15, hH, s4, zB_0, hn, e1, e2, e3, e4, e5, not_false_eq_true, and_self, not_true_eq_false, if_false, true_and]
theorem s9 (hH : za_H h) {n k f : Nat} (hn : M h 3 = nI n) (h24 : n ≤ 24) (hk : k < n) (hf : f < 2) : zT L 9 0 [.ref h, .int (nI k), .int (nI f)] [] M Q ↔ Q (M (h + 2) (2 * k + f)) M := by
  have e1 : ¬ nI k < 0 := nI_pos (by omega)
  have e2 : ¬ nI n ≤ nI k := nI_ge hk (by omega)
  have f1 : ¬ nI f < 0 := nI_pos (by omega)
  have f2 : ¬ nI 2 ≤ nI f := nI_ge hf (by omega)
  have e6 : nI 2 * nI k + nI f = nI (2 * k + f) := by rw [pk_mul, nI_add]
  have e3 : (nI (2 * k + f)).toNatClampNeg = 2 * k + f := nI_clamp (by omega)
  have e4 : za_in L (h + 2) false (nI (2 * k + f)) := za_in_of (za_Hk hH).2.1 (by omega) (by omega)
  simp only [q9_0, q9_1, q9_2, q9_5, q9_8, q9_9, q9_12, q9_15, q9_16, q9_19, q9_20, q9_21, q9_22, q9_23, q9_24, q9_25, q9_28, q9_30, hH, s4, s72, zB_0, hn, e1, e2, f1, f2, e6, e3, e4, not_false_eq_true, and_self, not_true_eq_false, if_false, true_and]
theorem s10 (hH : za_H h) {n k f : Nat} {x : Int32} (hn : M h 3 = nI n) (h24 : n ≤ 24) (hk : k < n) (hf : f < 2) : zT L 10 0 [.ref h, .int (nI k), .int (nI f), .int x] [] M Q ↔ Q 0 (za_up M (h + 2) (2 * k + f) x) := by
  have e1 : ¬ nI k < 0 := nI_pos (by omega)
  have e2 : ¬ nI n ≤ nI k := nI_ge hk (by omega)
  have f1 : ¬ nI f < 0 := nI_pos (by omega)
  have f2 : ¬ nI 2 ≤ nI f := nI_ge hf (by omega)
  have e6 : nI 2 * nI k + nI f = nI (2 * k + f) := by rw [pk_mul, nI_add]
  have e3 : (nI (2 * k + f)).toNatClampNeg = 2 * k + f := nI_clamp (by omega)
  have e4 : za_in L (h + 2) false (nI (2 * k + f)) := za_in_of (za_Hk hH).2.1 (by omega) (by omega)
  have e5 : h + 2 < 42 := by have := (za_Hk (L := L) hH).2.2.2.2.2.1; omega
  simp only [q10_0, q10_1, q10_2, q10_5, q10_8, q10_9, q10_12, q10_15, q10_16, q10_19, q10_20, q10_21, q10_22, q10_23, q10_24, q10_25, q10_26, hH, s4, s72, zB_0, hn, e1, e2, f1, f2, e6, e3, e4, e5, not_false_eq_true, and_self, not_true_eq_false, if_false, true_and]
theorem s11 (hH : za_H h) {v : Nat} (hv : v < 8) : zT L 11 0 [.ref h, .int (nI v)] [] M Q ↔ Q (M (h + 3) v) M := by
  have e1 : ¬ nI v < 0 := nI_pos (by omega)
  have e2 : ¬ nI 8 ≤ nI v := nI_ge hv (by omega)
  have e3 : (nI v).toNatClampNeg = v := nI_clamp (by omega)
  have e4 : za_in L (h + 3) false (nI v) := za_in_of (za_Hk hH).2.2.1 (by omega) (by omega)
  simp only [q11_0, q11_1, q11_4, q11_7, q11_8, q11_11, q11_12, q11_13, q11_16, q11_18, hH, s71, zB_0, e1, e2, e3, e4, not_false_eq_true, and_self, not_true_eq_false, if_false, true_and]
theorem s12 (hH : za_H h) {v : Nat} {x : Int32} (hv : v < 8) : zT L 12 0 [.ref h, .int (nI v), .int x] [] M Q ↔ Q 0 (za_up M (h + 3) v x) := by
  have e1 : ¬ nI v < 0 := nI_pos (by omega)
  have e2 : ¬ nI 8 ≤ nI v := nI_ge hv (by omega)
  have e3 : (nI v).toNatClampNeg = v := nI_clamp (by omega)
  have e4 : za_in L (h + 3) false (nI v) := za_in_of (za_Hk hH).2.2.1 (by omega) (by omega)
  have e5 : h + 3 < 42 := by have := (za_Hk (L := L) hH).2.2.2.2.2.1; omega
  simp only [q12_0, q12_1, q12_4, q12_7, q12_8, q12_11, q12_12, q12_13, q12_14, hH, s71, zB_0, e1, e2, e3, e4, e5, not_false_eq_true, and_self, not_true_eq_false, if_false, true_and]
end ZA
