/-! drop, add of the class's heap; the program's small methods; one step; a run -/
section ZA
variable {L : Nat} {M : za_M} {Q : Int32 → za_M → Prop} {h : Nat}
theorem s1_loop (hH : za_H h) {x : Int32} : ∀ (d v : Nat), v + d = 8 → ∀ (M : za_M), zT L 1 12 [.ref h, .int x, .int (nI v)] [] M (fun r M' => r = x ∧ (∀ w, v ≤ w → w < 8 → M' (h + 3) w = zN) ∧ (∀ w, w < v → M' (h + 3) w = M (h + 3) w) ∧ ∀ c, c ≠ h + 3 → M' c = M c) := by
  intro d
  induction d with
  | zero =>
    intro v hv M
    have e1 : nI 8 ≤ nI v := nI_le (by omega) (by omega)
    simp only [q1_0, q1_1, q1_4, q1_5, q1_6, q1_7, q1_10, q1_11, q1_12, q1_13, q1_15, q1_18, q1_19, q1_22, q1_23, q1_25, q1_26, q1_29, q1_32, q1_33, e1, if_true, true_and]
    exact ⟨fun w h1 h2 => by omega, fun _ _ => True.intro, fun _ _ => True.intro⟩
  | succ d ih =>
    intro v hv M
    have e1 : ¬ nI 8 ≤ nI v := nI_ge (by omega) (by omega)
    have e2 : (nI v).toNatClampNeg = v := nI_clamp (by omega)
    have e3 : za_in L (h + 3) false (nI v) := za_in_of (za_Hk hH).2.2.1 (by omega) (by omega)
    have e4 : h + 3 < 42 := by have := (za_Hk (L := L) hH).2.2.2.2.2.1; omega
    rw [q1_12, q1_13, q1_15]
    simp only [q1_0, q1_1, q1_4, q1_5, q1_6, q1_7, q1_10, q1_11, q1_18, q1_19, q1_22, q1_23, q1_25, q1_26, q1_29, q1_32, q1_33, hH, e1, e2, e3, e4, if_false, true_and, nI_add]
    refine zT_mono (ih (v + 1) (by omega) _) ?_
    rintro r M' ⟨h1, h2, h3, h4⟩
    refine ⟨h1, fun w a b => ?_, fun w a => ?_, fun c hc => ?_⟩
    · by_cases e : w = v
      · subst e; rw [h3 w (by omega), za_up_same]
      · exact h2 w (by omega) b
    · rw [h3 w (by omega), za_up_oi (by omega)]
    · rw [h4 c hc, za_up_ne hc]
theorem s1 (hH : za_H h) : zT L 1 0 [.ref h, .null, .null] [] M (fun r M' => r = M h 3 ∧ M' h 3 = nI 0 ∧ (∀ w, w < 8 → M' (h + 3) w = zN) ∧ ∀ c, c ≠ h → c ≠ h + 3 → M' c = M c) := by
  simp only [q1_0, q1_1, q1_4, q1_5, q1_6, q1_7, q1_10, q1_11, q1_13, q1_15, q1_18, q1_19, q1_22, q1_23, q1_25, q1_26, q1_29, q1_32, q1_33, hH]
  refine zT_mono (s1_loop hH 8 0 rfl _) ?_
  rintro r M' ⟨h1, h2, h3, h4⟩
  refine ⟨h1, ?_, fun w hw => h2 w (Nat.zero_le _) hw, fun c hc hc3 => ?_⟩
  · rw [h4 h (by omega), za_up_same]
  · rw [h4 c hc3, za_up_ne hc]
theorem s6_full (hH : za_H h) {key : Int32} (hn : M h 3 = nI 24) : zT L 6 0 [.ref h, .int key, .null] [] M Q ↔ Q (-3) M := by
  have e1 : ¬ nI 24 < nI 24 := by decide
  simp only [q6_0, q6_1, q6_4, q6_6, q6_9, q6_11, q6_12, q6_13, q6_16, q6_17, q6_18, q6_19, q6_22, q6_23, q6_24, q6_27, q6_28, q6_31, q6_32, q6_33, q6_34, q6_35, q6_38, q6_39, q6_40, q6_41, q6_43, q6_44, q6_45, q6_48, q6_49, q6_50, q6_51, q6_52, q6_53, q6_55, q6_56, q6_57, hH, hn, e1, if_false]
/-- the memory behind a node more -/
def zAdd (M : za_M) (h n : Nat) (key : Int32) : za_M := za_up (za_up (za_up (za_up M h 3 (nI (n + 1))) (h + 1) n key) (h + 2) (2 * n) zN) (h + 2) (2 * n + 1) zN
theorem s6 (hH : za_H h) {key : Int32} {n : Nat} (hn : M h 3 = nI n) (h24 : n < 24) : zT L 6 0 [.ref h, .int key, .null] [] M Q ↔ Q (nI n) (zAdd M h n key) := by
  have e1 : nI n < nI 24 := nI_lt h24 (by omega)
  have e2 : (nI n).toNatClampNeg = n := nI_clamp (by omega)
  have e3 : (nI (2 * n)).toNatClampNeg = 2 * n := nI_clamp (by omega)
  have e4 : (nI (2 * n + 1)).toNatClampNeg = 2 * n + 1 := nI_clamp (by omega)
  have e5 : za_in L (h + 1) false (nI n) := za_in_of (za_Hk hH).1 (by omega) (by omega)
  have e6 : za_in L (h + 2) false (nI (2 * n)) := za_in_of (za_Hk hH).2.1 (by omega) (by omega)
  have e7 : za_in L (h + 2) false (nI (2 * n + 1)) := za_in_of (za_Hk hH).2.1 (by omega) (by omega)
  have e8 := (za_Hk (L := L) hH).2.2.2.2.2.1
  have e9 : h + 1 < 42 := by omega
  have e10 : h + 2 < 42 := by omega
  simp only [q6_0, q6_1, q6_4, q6_6, q6_9, q6_11, q6_12, q6_13, q6_16, q6_17, q6_18, q6_19, q6_22, q6_23, q6_24, q6_27, q6_28, q6_31, q6_32, q6_33, q6_34, q6_35, q6_38, q6_39, q6_40, q6_41, q6_43, q6_44, q6_45, q6_48, q6_49, q6_50, q6_51, q6_52, q6_53, q6_55, q6_56, q6_57, hH, hn, e1, e2, e3, e4, e5, e6, e7, e9, e10, if_true, true_and, nI_add, pk_mul, zAdd]
theorem zC_add {S : zS} {key : Int32} (hS : zC M h S) : zC (zAdd M h S.1 key) h (zS_add S key) := by
  refine zV_add hS ?_ (fun i => ?_) (fun j => ?_) (fun v => ?_)
  · unfold zAdd
    rw [za_up_oc (by omega), za_up_oc (by omega), za_up_oc (by omega), za_up_same]
  · unfold zAdd
    rw [za_up_oc (by omega), za_up_oc (by omega), za_up_at, if_pos rfl, za_up_oc (by omega)]
  · unfold zAdd
    simp only [za_up_at, if_true]
    rw [if_neg (show ¬ h + 2 = h + 1 by omega), if_neg (show ¬ h + 2 = h by omega)]
    by_cases a : j = 2 * S.1 + 1 <;> by_cases b : j = 2 * S.1 <;> simp [a, b]
  · unfold zAdd
    rw [za_up_oc (by omega), za_up_oc (by omega), za_up_oc (by omega), za_up_oc (by omega)]
theorem zAdd_ne {n : Nat} {key : Int32} {c : Nat} (h1 : c ≠ h) (h2 : c ≠ h + 1) (h3 : c ≠ h + 2) : zAdd M h n key c = M c := by
  unfold zAdd
  rw [za_up_ne h3, za_up_ne h3, za_up_ne h2, za_up_ne h1]
theorem s31 : zT L 31 0 [.ref 1] [] M Q ↔ Q (M 1 4) M := by simp only [q31_0, q31_1, q31_4]
theorem s32 : zT L 32 0 [.ref 1] [] M Q ↔ Q (M 1 5) M := by simp only [q32_0, q32_1, q32_4]
theorem s33 : zT L 33 0 [.ref 1] [] M Q ↔ Q (M 1 6) M := by simp only [q33_0, q33_1, q33_4]
theorem s30 : zT L 30 0 [.ref 1, .null] [] M Q ↔ Q (M 1 4) (za_up M 1 4 (nI 0)) := by simp only [q30_0, q30_1, q30_4, q30_5, q30_6, q30_7, q30_10, q30_11]
theorem s35 {x : Int32} : zT L 35 0 [.ref 1, .int x] [] M Q ↔ Q (zB (¬ x < 0 ∧ ¬ M 1 4 ≤ x)) M := by
  simp only [q35_0, q35_1, q35_4, q35_5, q35_6, q35_9, q35_12, q35_13, q35_16, q35_17, zb1, zb0]
  by_cases h1 : x < 0 <;> by_cases h2 : M 1 4 ≤ x <;> simp [h1, h2, zB]
theorem s36 {x : Int32} : zT L 36 0 [.int x] [] M Q ↔ Q (-1 - x) M := by simp only [q36_0, q36_1, q36_2, q36_3]
theorem s37 {x : Int32} : zT L 37 0 [.int x] [] M Q ↔ Q (-1 - x) M := by simp only [q37_0, q37_1, q37_2, q37_3]
theorem s29_full {a b c d : Int32} (hp : M 1 4 = nI 60) : zT L 29 0 [.ref 1, .int a, .int b, .int c, .int d, .null] [] M Q ↔ Q (-3) M := by
  have e1 : ¬ nI 60 < nI 60 := by decide
  simp only [q29_0, q29_1, q29_4, q29_6, q29_9, q29_11, q29_12, q29_13, q29_16, q29_18, q29_19, q29_20, q29_23, q29_24, q29_25, q29_28, q29_29, q29_32, q29_34, q29_35, q29_36, q29_37, q29_40, q29_42, q29_43, q29_44, q29_45, q29_48, q29_50, q29_51, q29_52, q29_53, q29_56, q29_58, q29_60, q29_61, q29_63, hp, e1, if_false]
theorem s29 {a b c d : Int32} {p : Nat} (hp : M 1 4 = nI p) (h60 : p < 60) : zT L 29 0 [.ref 1, .int a, .int b, .int c, .int d, .null] [] M Q ↔ Q (nI p) (za_up (za_up (za_up (za_up (za_up M 1 4 (nI (p + 1))) 2 p a) 3 p b) 4 p c) 5 p d) := by
  have e1 : nI p < nI 60 := nI_lt h60 (by omega)
  have e2 : (nI p).toNatClampNeg = p := nI_clamp (by omega)
  have e3 : ∀ a, a = 2 ∨ a = 3 ∨ a = 4 ∨ a = 5 → za_in L a false (nI p) := by
    rintro a (rfl | rfl | rfl | rfl) <;> exact za_in_of (n := 60) rfl h60 (by omega)
  have f2 := e3 2 (by omega)
  have f3 := e3 3 (by omega)
  have f4 := e3 4 (by omega)
  have f5 := e3 5 (by omega)
  simp only [q29_0, q29_1, q29_4, q29_6, q29_9, q29_11, q29_12, q29_13, q29_16, q29_18, q29_19, q29_20, q29_23, q29_24, q29_25, q29_28, q29_29, q29_32, q29_34, q29_35, q29_36, q29_37, q29_40, q29_42, q29_43, q29_44, q29_45, q29_48, q29_50, q29_51, q29_52, q29_53, q29_56, q29_58, q29_60, q29_61, q29_63, hp, e1, e2, f2, f3, f4, f5, if_true, true_and, nI_add, Nat.reduceLT]
theorem s39_full (hH : za_H h) {v : Nat} {key nx : Int32} (hn : M h 3 = nI 24) : zT L 39 0 [.ref h, .int (nI v), .int key, .int nx, .null] [] M Q ↔ Q (-1 - nI 3) M := by
  simp only [q39_0, q39_1, q39_2, q39_5, q39_7, q39_9, q39_11, q39_14, q39_15, q39_18, q39_19, q39_20, q39_21, q39_23, q39_26, q39_27, hH, s6_full hH hn, s36, if_true]
theorem s39 (hH : za_H h) {v n : Nat} {key nx : Int32} (hn : M h 3 = nI n) (h24 : n < 24) (hv : v < 8) : zT L 39 0 [.ref h, .int (nI v), .int key, .int nx, .null] [] M Q ↔ Q nx (za_up (zAdd M h n key) (h + 3) v (nI n)) := by
  have e1 : ¬ nI n = -3 := by
    intro e
    have h1 := nI_toInt (show n < 2 ^ 31 by omega)
    rw [e] at h1
    have h2 : (-3 : Int32).toInt = -3 := by decide
    omega
  simp only [q39_0, q39_1, q39_2, q39_5, q39_7, q39_9, q39_11, q39_14, q39_15, q39_18, q39_19, q39_20, q39_21, q39_23, q39_26, q39_27, hH, s6 hH hn h24, e1, if_false, s12 hH hv]
theorem s40_n (hH : za_H h) {v u f : Nat} {nx : Int32} (hu : u < 8) (hw : M (h + 3) u = zN) : zT L 40 0 [.ref h, .int (nI v), .int (nI u), .int (nI f), .int nx, .null] [] M Q ↔ Q (-1 - nI 1) M := by
  simp only [q40_0, q40_1, q40_2, q40_5, q40_7, q40_9, q40_11, q40_14, q40_15, q40_18, q40_19, q40_20, q40_21, q40_22, q40_24, q40_25, q40_28, q40_31, q40_33, hH, s11 hH hu, hw, s36, if_true]
theorem s40 (hH : za_H h) {v u f n k : Nat} {nx : Int32} (hv : v < 8) (hu : u < 8) (hf : f < 2) (hn : M h 3 = nI n) (h24 : n ≤ 24) (hk : k < n) (hw : M (h + 3) u = nI k) : zT L 40 0 [.ref h, .int (nI v), .int (nI u), .int (nI f), .int nx, .null] [] M Q ↔ Q nx (za_up M (h + 3) v (M (h + 2) (2 * k + f))) := by
  have e1 : ¬ nI k = zN := zN_ne (by omega)
  simp only [q40_0, q40_1, q40_2, q40_5, q40_7, q40_9, q40_11, q40_14, q40_15, q40_18, q40_19, q40_20, q40_21, q40_22, q40_24, q40_25, q40_28, q40_31, q40_33, hH, s11 hH hu, hw, e1, if_false, s9 hH hn h24 hk hf, s12 hH hv]
theorem s41_n (hH : za_H h) {v u f : Nat} {nx : Int32} (hv : v < 8) (hw : M (h + 3) v = zN) : zT L 41 0 [.ref h, .int (nI v), .int (nI f), .int (nI u), .int nx, .null] [] M Q ↔ Q (-1 - nI 1) M := by
  simp only [q41_0, q41_1, q41_2, q41_5, q41_7, q41_9, q41_11, q41_14, q41_15, q41_18, q41_19, q41_20, q41_22, q41_23, q41_24, q41_25, q41_28, q41_31, q41_33, hH, s11 hH hv, hw, s36, if_true]
theorem s41 (hH : za_H h) {v u f n k : Nat} {nx : Int32} (hv : v < 8) (hu : u < 8) (hf : f < 2) (hn : M h 3 = nI n) (h24 : n ≤ 24) (hk : k < n) (hw : M (h + 3) v = nI k) : zT L 41 0 [.ref h, .int (nI v), .int (nI f), .int (nI u), .int nx, .null] [] M Q ↔ Q nx (za_up M (h + 2) (2 * k + f) (M (h + 3) u)) := by
  have e1 : ¬ nI k = zN := zN_ne (by omega)
  simp only [q41_0, q41_1, q41_2, q41_5, q41_7, q41_9, q41_11, q41_14, q41_15, q41_18, q41_19, q41_20, q41_22, q41_23, q41_24, q41_25, q41_28, q41_31, q41_33, hH, s11 hH hv, s11 hH hu, hw, e1, if_false, s10 hH hn h24 hk hf]
theorem s42_n (hH : za_H h) {v u : Nat} {t nx : Int32} (hv : v < 8) (hu : u < 8) (hw : M (h + 3) v = zN ∨ M (h + 3) u = zN) : zT L 42 0 [.ref h, .int (nI v), .int (nI u), .int t, .int nx, .null, .null] [] M Q ↔ Q (-1 - nI 1) M := by
  rcases hw with hw | hw
  · simp only [q42_0, q42_1, q42_2, q42_5, q42_7, q42_8, q42_9, q42_12, q42_14, q42_16, q42_18, q42_21, q42_23, q42_25, q42_28, q42_29, q42_32, q42_33, q42_34, q42_36, q42_39, q42_40, q42_42, q42_45, q42_48, q42_49, q42_52, q42_54, hH, s11 hH hv, s11 hH hu, hw, s36, if_true]
  · simp only [q42_0, q42_1, q42_2, q42_5, q42_7, q42_8, q42_9, q42_12, q42_14, q42_16, q42_18, q42_21, q42_23, q42_25, q42_28, q42_29, q42_32, q42_33, q42_34, q42_36, q42_39, q42_40, q42_42, q42_45, q42_48, q42_49, q42_52, q42_54, hH, s11 hH hv, s11 hH hu, hw, s36, if_true, ite_self]
theorem s42 (hH : za_H h) {v u n k j : Nat} {t nx : Int32} (hv : v < 8) (hu : u < 8) (hn : M h 3 = nI n) (h24 : n ≤ 24) (hk : k < n) (hj : j < n) (hw : M (h + 3) v = nI k) (hw2 : M (h + 3) u = nI j) : zT L 42 0 [.ref h, .int (nI v), .int (nI u), .int t, .int nx, .null, .null] [] M Q ↔ Q (if M (h + 1) k < M (h + 1) j then t else nx) M := by
  have e1 : ¬ nI k = zN := zN_ne (by omega)
  have e2 : ¬ nI j = zN := zN_ne (by omega)
  simp only [q42_0, q42_1, q42_2, q42_5, q42_7, q42_8, q42_9, q42_12, q42_14, q42_16, q42_18, q42_21, q42_23, q42_25, q42_28, q42_29, q42_32, q42_33, q42_34, q42_36, q42_39, q42_40, q42_42, q42_45, q42_48, q42_49, q42_52, q42_54, hH, s11 hH hv, s11 hH hu, hw, hw2, e1, e2, if_false, s7 hH hn h24 hk, s7 hH hn h24 hj]
  by_cases e : M (h + 1) k < M (h + 1) j
  · have e3 : ¬ M (h + 1) j ≤ M (h + 1) k := Int32.not_le.mpr e
    simp only [e, e3, if_true, if_false]
  · have e3 : M (h + 1) j ≤ M (h + 1) k := Int32.not_lt.mp e
    simp only [e, e3, if_true, if_false]
theorem s43_n (hH : za_H h) {v : Nat} {key nx : Int32} (hv : v < 8) (hw : M (h + 3) v = zN) : zT L 43 0 [.ref h, .int (nI v), .int key, .int nx, .null] [] M Q ↔ Q (-1 - nI 1) M := by
  simp only [q43_0, q43_1, q43_2, q43_5, q43_7, q43_9, q43_11, q43_14, q43_15, q43_18, q43_19, q43_20, q43_22, q43_23, q43_26, q43_27, hH, s11 hH hv, hw, s36, if_true]
theorem s43 (hH : za_H h) {v n k : Nat} {key nx : Int32} (hv : v < 8) (hn : M h 3 = nI n) (h24 : n ≤ 24) (hk : k < n) (hw : M (h + 3) v = nI k) : zT L 43 0 [.ref h, .int (nI v), .int key, .int nx, .null] [] M Q ↔ Q nx (za_up M (h + 1) k key) := by
  have e1 : ¬ nI k = zN := zN_ne (by omega)
  simp only [q43_0, q43_1, q43_2, q43_5, q43_7, q43_9, q43_11, q43_14, q43_15, q43_18, q43_19, q43_20, q43_22, q43_23, q43_26, q43_27, hH, s11 hH hv, hw, e1, if_false, s8 hH hn h24 hk]
end ZA
