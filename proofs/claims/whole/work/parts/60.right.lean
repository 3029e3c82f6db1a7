/-! an instruction is right: both sides -/
def zKd : List Nat := [1, 0, 0, 1, 0, 0, 1, 1, 0, 1, 1, 2, 1, 2, 1, 1, 3, 0, 1, 1, 3, 1, 1, 3, 3, 0, 0, 1, 0, 0, 0, 0, 0]
def zRn (k : Nat) (a b c : Int32) : Bool := match k with
  | 0 => decide (zNd 8 a)
  | 1 => decide (zNd 8 a)
  | 2 => decide (zNd 8 a) && decide (zNd 8 b)
  | 3 => decide (zNd 8 a) && (decide (zNd 8 b) && decide (zNd 2 c))
  | 4 => decide (zNd 8 a) && (decide (zNd 2 b) && decide (zNd 8 c))
  | 5 => decide (zNd 8 a) && decide (zNd 60 b)
  | 6 => decide (zNd 8 a) && (decide (zNd 8 b) && decide (zNd 60 c))
  | 7 => decide (zNd 8 a) && (decide (zNd 8 b) && decide (zNd 60 c))
  | 8 => decide (zNd 60 a)
  | 9 => decide (zNd 8 a)
  | 10 => true
  | _ => false
def zRb (o a b c : Int32) : Bool := decide (zNd 11 o) && zRn o.toNatClampNeg a b c
theorem zRb_k {k : Nat} (hk : k < 11) (a b c : Int32) : zRb (nI k) a b c = zRn k a b c := by
  unfold zRb
  rw [nI_clamp (by omega), decide_eq_true ((zNd_iff (by omega)).mpr ⟨k, hk, rfl⟩), Bool.true_and]
theorem zRb_no {o a b c : Int32} (h : ¬ zNd 11 o) : zRb o a b c = false := by
  unfold zRb
  rw [decide_eq_false h, Bool.false_and]
theorem zRb_I {o a b c : Int32} (h : zRb o a b c = true) : zI (o, a, b, c) := by
  unfold zRb at h
  rw [Bool.and_eq_true, decide_eq_true_eq] at h
  obtain ⟨k, hk, rfl⟩ := (zNd_iff (by omega)).mp h.1
  have h2 := h.2
  rw [nI_clamp (show k < 2 ^ 31 by omega)] at h2
  refine ⟨k, rfl, ?_⟩
  have hv : ∀ x : Int32, zNd 8 x → zVr x := fun x hx => (zNd_iff (by omega)).mp hx
  have hf : ∀ x : Int32, zNd 2 x → zFl x := fun x hx => (zNd_iff (by omega)).mp hx
  have hp : ∀ x : Int32, zNd 60 x → zPl x := fun x hx => (zNd_iff (by omega)).mp hx
  match k, hk with
  | 0, _ => exact hv _ (of_decide_eq_true h2)
  | 1, _ => exact hv _ (of_decide_eq_true h2)
  | 2, _ =>
    simp only [zRn, Bool.and_eq_true, decide_eq_true_eq] at h2
    exact ⟨hv _ h2.1, hv _ h2.2⟩
  | 3, _ =>
    simp only [zRn, Bool.and_eq_true, decide_eq_true_eq] at h2
    exact ⟨hv _ h2.1, hv _ h2.2.1, hf _ h2.2.2⟩
  | 4, _ =>
    simp only [zRn, Bool.and_eq_true, decide_eq_true_eq] at h2
    exact ⟨hv _ h2.1, hf _ h2.2.1, hv _ h2.2.2⟩
  | 5, _ =>
    simp only [zRn, Bool.and_eq_true, decide_eq_true_eq] at h2
    exact ⟨hv _ h2.1, hp _ h2.2⟩
  | 6, _ =>
    simp only [zRn, Bool.and_eq_true, decide_eq_true_eq] at h2
    exact ⟨hv _ h2.1, hv _ h2.2.1, hp _ h2.2.2⟩
  | 7, _ =>
    simp only [zRn, Bool.and_eq_true, decide_eq_true_eq] at h2
    exact ⟨hv _ h2.1, hv _ h2.2.1, hp _ h2.2.2⟩
  | 8, _ => exact hp _ (of_decide_eq_true h2)
  | 9, _ => exact hv _ (of_decide_eq_true h2)
  | 10, _ => exact trivial
section ZA
variable {L : Nat} {M : za_M} {Q : Int32 → za_M → Prop}
theorem t28_0 {x : Int32} : zT L 28 0 [.int (nI 0), .int x] [] M Q ↔ Q (nI 1) M := by
  rw [q28_0, q28_1_d (Or.inl (by decide))]
  simp only [q28_54, q28_55, zb1]
theorem t28_1 {x : Int32} : zT L 28 0 [.int (nI 1), .int x] [] M Q ↔ Q (zB (zNd 8 x)) M := by
  simp only [q28_0, q28_1_1, q28_1_2, q28_1_3, q28_28, q28_29, q28_32, t71, zB_ok]
theorem t28_2 {x : Int32} : zT L 28 0 [.int (nI 2), .int x] [] M Q ↔ Q (zB (zNd 2 x)) M := by
  simp only [q28_0, q28_1_1, q28_1_2, q28_1_3, q28_33, q28_34, q28_37, t72, zB_ok]
theorem t28_3 {x : Int32} : zT L 28 0 [.int (nI 3), .int x] [] M Q ↔ Q (zB (zNd 60 x)) M := by
  rw [← zB_cg (zNd_a (n := 60) (x := x) (by omega))]
  simp only [q28_0, q28_1_1, q28_1_2, q28_1_3, q28_38, q28_39, q28_42, q28_43, q28_45, q28_48, q28_49, q28_52, q28_53, zb1, zb0]
  by_cases h1 : x < 0 <;> by_cases h2 : nI 60 ≤ x <;> simp [h1, h2, zB]
theorem s27 (hK : ∀ j k, zKd[j]? = some k → M 101 j = nI k) {o a b c : Int32} : zT L 27 0 [.int o, .int a, .int b, .int c, .null] [] M Q ↔ Q (zB (zRb o a b c = true)) M := by
  by_cases h : zNd 11 o
  · obtain ⟨k, hk, rfl⟩ := (zNd_iff (by omega)).mp h
    rw [zB_cg (show zRb (nI k) a b c = true ↔ zRn k a b c = true by rw [zRb_k hk])]
    have hin : ∀ j, j < 33 → za_in L 101 false (nI j) ∧ (nI j).toNatClampNeg = j := fun j hj => ⟨za_in_of (n := 33) rfl hj (by omega), nI_clamp (by omega)⟩
    have e1 : ¬ nI k < 0 := nI_pos (by omega)
    have e2 : nI k ≤ nI 10 := nI_le (by omega) (by omega)
    simp only [q27_0, q27_1, q27_4, q27_5, q27_7, q27_10, q27_11, q27_12, q27_13, q27_14, q27_15, e1, e2, if_true, if_false, pk_mul]
    match k, hk with
    | 0, _ =>
      have k0 : M 101 0 = nI 1 := hK 0 1 rfl
      obtain ⟨i0, c0⟩ := hin 0 (by omega)
      have k1 : M 101 1 = nI 0 := hK 1 0 rfl
      obtain ⟨i1, c1⟩ := hin 1 (by omega)
      have k2 : M 101 2 = nI 0 := hK 2 0 rfl
      obtain ⟨i2, c2⟩ := hin 2 (by omega)
      simp only [q27_17, q27_20, q27_22, q27_23, q27_24, q27_27, q27_30, q27_33, q27_35, q27_36, q27_37, q27_38, q27_39, q27_42, q27_45, q27_48, q27_50, q27_51, q27_52, q27_53, q27_54, q27_57, q27_60, q27_61, q27_64, q27_65, nI_add, Nat.reduceMul, Nat.reduceAdd, k0, k1, k2, i0, c0, i1, c1, i2, c2, true_and, t28_0, t28_1, t28_2, t28_3, z10, z11, z00, z01, or_true, true_or, if_false, if_true]
      by_cases h0 : zNd 8 a
      · have g0 := zB_t h0
        simp only [g0, z10, z11, or_true, true_and, if_false]
        rw [zB_t (show zRn 0 a b c = true by simp only [zRn, decide_eq_true h0, Bool.and_self])]
      · have g0 := zB_f h0
        simp only [g0, z10, z00, z01, true_or, true_and, if_false, if_true]
        rw [zB_f (show ¬ zRn 0 a b c = true by simp only [zRn, decide_eq_false h0, Bool.false_and, Bool.and_false, Bool.false_eq_true, not_false_eq_true])]
    | 1, _ =>
      have k0 : M 101 3 = nI 1 := hK 3 1 rfl
      obtain ⟨i0, c0⟩ := hin 3 (by omega)
      have k1 : M 101 4 = nI 0 := hK 4 0 rfl
      obtain ⟨i1, c1⟩ := hin 4 (by omega)
      have k2 : M 101 5 = nI 0 := hK 5 0 rfl
      obtain ⟨i2, c2⟩ := hin 5 (by omega)
      simp only [q27_17, q27_20, q27_22, q27_23, q27_24, q27_27, q27_30, q27_33, q27_35, q27_36, q27_37, q27_38, q27_39, q27_42, q27_45, q27_48, q27_50, q27_51, q27_52, q27_53, q27_54, q27_57, q27_60, q27_61, q27_64, q27_65, nI_add, Nat.reduceMul, Nat.reduceAdd, k0, k1, k2, i0, c0, i1, c1, i2, c2, true_and, t28_0, t28_1, t28_2, t28_3, z10, z11, z00, z01, or_true, true_or, if_false, if_true]
      by_cases h0 : zNd 8 a
      · have g0 := zB_t h0
        simp only [g0, z10, z11, or_true, true_and, if_false]
        rw [zB_t (show zRn 1 a b c = true by simp only [zRn, decide_eq_true h0, Bool.and_self])]
      · have g0 := zB_f h0
        simp only [g0, z10, z00, z01, true_or, true_and, if_false, if_true]
        rw [zB_f (show ¬ zRn 1 a b c = true by simp only [zRn, decide_eq_false h0, Bool.false_and, Bool.and_false, Bool.false_eq_true, not_false_eq_true])]
    | 2, _ =>
      have k0 : M 101 6 = nI 1 := hK 6 1 rfl
      obtain ⟨i0, c0⟩ := hin 6 (by omega)
      have k1 : M 101 7 = nI 1 := hK 7 1 rfl
      obtain ⟨i1, c1⟩ := hin 7 (by omega)
      have k2 : M 101 8 = nI 0 := hK 8 0 rfl
      obtain ⟨i2, c2⟩ := hin 8 (by omega)
      simp only [q27_17, q27_20, q27_22, q27_23, q27_24, q27_27, q27_30, q27_33, q27_35, q27_36, q27_37, q27_38, q27_39, q27_42, q27_45, q27_48, q27_50, q27_51, q27_52, q27_53, q27_54, q27_57, q27_60, q27_61, q27_64, q27_65, nI_add, Nat.reduceMul, Nat.reduceAdd, k0, k1, k2, i0, c0, i1, c1, i2, c2, true_and, t28_0, t28_1, t28_2, t28_3, z10, z11, z00, z01, or_true, true_or, if_false, if_true]
      by_cases h0 : zNd 8 a
      · have g0 := zB_t h0
        by_cases h1 : zNd 8 b
        · have g1 := zB_t h1
          simp only [g0, g1, z10, z11, or_true, true_and, if_false]
          rw [zB_t (show zRn 2 a b c = true by simp only [zRn, decide_eq_true h0, decide_eq_true h1, Bool.and_self])]
        · have g1 := zB_f h1
          simp only [g0, g1, z10, z00, z01, true_or, true_and, if_false, if_true]
          rw [zB_f (show ¬ zRn 2 a b c = true by simp only [zRn, decide_eq_false h1, Bool.false_and, Bool.and_false, Bool.false_eq_true, not_false_eq_true])]
      · have g0 := zB_f h0
        simp only [g0, z10, z00, z01, true_or, true_and, if_false, if_true]
        rw [zB_f (show ¬ zRn 2 a b c = true by simp only [zRn, decide_eq_false h0, Bool.false_and, Bool.and_false, Bool.false_eq_true, not_false_eq_true])]
    | 3, _ =>
      have k0 : M 101 9 = nI 1 := hK 9 1 rfl
      obtain ⟨i0, c0⟩ := hin 9 (by omega)
      have k1 : M 101 10 = nI 1 := hK 10 1 rfl
      obtain ⟨i1, c1⟩ := hin 10 (by omega)
      have k2 : M 101 11 = nI 2 := hK 11 2 rfl
      obtain ⟨i2, c2⟩ := hin 11 (by omega)
      simp only [q27_17, q27_20, q27_22, q27_23, q27_24, q27_27, q27_30, q27_33, q27_35, q27_36, q27_37, q27_38, q27_39, q27_42, q27_45, q27_48, q27_50, q27_51, q27_52, q27_53, q27_54, q27_57, q27_60, q27_61, q27_64, q27_65, nI_add, Nat.reduceMul, Nat.reduceAdd, k0, k1, k2, i0, c0, i1, c1, i2, c2, true_and, t28_0, t28_1, t28_2, t28_3, z10, z11, z00, z01, or_true, true_or, if_false, if_true]
      by_cases h0 : zNd 8 a
      · have g0 := zB_t h0
        by_cases h1 : zNd 8 b
        · have g1 := zB_t h1
          by_cases h2 : zNd 2 c
          · have g2 := zB_t h2
            simp only [g0, g1, g2, z10, z11, or_true, true_and, if_false]
            rw [zB_t (show zRn 3 a b c = true by simp only [zRn, decide_eq_true h0, decide_eq_true h1, decide_eq_true h2, Bool.and_self])]
          · have g2 := zB_f h2
            simp only [g0, g1, g2, z10, z00, z01, true_or, true_and, if_false, if_true]
            rw [zB_f (show ¬ zRn 3 a b c = true by simp only [zRn, decide_eq_false h2, Bool.false_and, Bool.and_false, Bool.false_eq_true, not_false_eq_true])]
        · have g1 := zB_f h1
          simp only [g0, g1, z10, z00, z01, true_or, true_and, if_false, if_true]
          rw [zB_f (show ¬ zRn 3 a b c = true by simp only [zRn, decide_eq_false h1, Bool.false_and, Bool.and_false, Bool.false_eq_true, not_false_eq_true])]
      · have g0 := zB_f h0
        simp only [g0, z10, z00, z01, true_or, true_and, if_false, if_true]
        rw [zB_f (show ¬ zRn 3 a b c = true by simp only [zRn, decide_eq_false h0, Bool.false_and, Bool.and_false, Bool.false_eq_true, not_false_eq_true])]
    | 4, _ =>
      have k0 : M 101 12 = nI 1 := hK 12 1 rfl
      obtain ⟨i0, c0⟩ := hin 12 (by omega)
      have k1 : M 101 13 = nI 2 := hK 13 2 rfl
      obtain ⟨i1, c1⟩ := hin 13 (by omega)
      have k2 : M 101 14 = nI 1 := hK 14 1 rfl
      obtain ⟨i2, c2⟩ := hin 14 (by omega)
      simp only [q27_17, q27_20, q27_22, q27_23, q27_24, q27_27, q27_30, q27_33, q27_35, q27_36, q27_37, q27_38, q27_39, q27_42, q27_45, q27_48, q27_50, q27_51, q27_52, q27_53, q27_54, q27_57, q27_60, q27_61, q27_64, q27_65, nI_add, Nat.reduceMul, Nat.reduceAdd, k0, k1, k2, i0, c0, i1, c1, i2, c2, true_and, t28_0, t28_1, t28_2, t28_3, z10, z11, z00, z01, or_true, true_or, if_false, if_true]
      by_cases h0 : zNd 8 a
      · have g0 := zB_t h0
        by_cases h1 : zNd 2 b
        · have g1 := zB_t h1
          by_cases h2 : zNd 8 c
          · have g2 := zB_t h2
            simp only [g0, g1, g2, z10, z11, or_true, true_and, if_false]
            rw [zB_t (show zRn 4 a b c = true by simp only [zRn, decide_eq_true h0, decide_eq_true h1, decide_eq_true h2, Bool.and_self])]
          · have g2 := zB_f h2
            simp only [g0, g1, g2, z10, z00, z01, true_or, true_and, if_false, if_true]
            rw [zB_f (show ¬ zRn 4 a b c = true by simp only [zRn, decide_eq_false h2, Bool.false_and, Bool.and_false, Bool.false_eq_true, not_false_eq_true])]
        · have g1 := zB_f h1
          simp only [g0, g1, z10, z00, z01, true_or, true_and, if_false, if_true]
          rw [zB_f (show ¬ zRn 4 a b c = true by simp only [zRn, decide_eq_false h1, Bool.false_and, Bool.and_false, Bool.false_eq_true, not_false_eq_true])]
      · have g0 := zB_f h0
        simp only [g0, z10, z00, z01, true_or, true_and, if_false, if_true]
        rw [zB_f (show ¬ zRn 4 a b c = true by simp only [zRn, decide_eq_false h0, Bool.false_and, Bool.and_false, Bool.false_eq_true, not_false_eq_true])]
    | 5, _ =>
      have k0 : M 101 15 = nI 1 := hK 15 1 rfl
      obtain ⟨i0, c0⟩ := hin 15 (by omega)
      have k1 : M 101 16 = nI 3 := hK 16 3 rfl
      obtain ⟨i1, c1⟩ := hin 16 (by omega)
      have k2 : M 101 17 = nI 0 := hK 17 0 rfl
      obtain ⟨i2, c2⟩ := hin 17 (by omega)
      simp only [q27_17, q27_20, q27_22, q27_23, q27_24, q27_27, q27_30, q27_33, q27_35, q27_36, q27_37, q27_38, q27_39, q27_42, q27_45, q27_48, q27_50, q27_51, q27_52, q27_53, q27_54, q27_57, q27_60, q27_61, q27_64, q27_65, nI_add, Nat.reduceMul, Nat.reduceAdd, k0, k1, k2, i0, c0, i1, c1, i2, c2, true_and, t28_0, t28_1, t28_2, t28_3, z10, z11, z00, z01, or_true, true_or, if_false, if_true]
      by_cases h0 : zNd 8 a
      · have g0 := zB_t h0
        by_cases h1 : zNd 60 b
        · have g1 := zB_t h1
          simp only [g0, g1, z10, z11, or_true, true_and, if_false]
          rw [zB_t (show zRn 5 a b c = true by simp only [zRn, decide_eq_true h0, decide_eq_true h1, Bool.and_self])]
        · have g1 := zB_f h1
          simp only [g0, g1, z10, z00, z01, true_or, true_and, if_false, if_true]
          rw [zB_f (show ¬ zRn 5 a b c = true by simp only [zRn, decide_eq_false h1, Bool.false_and, Bool.and_false, Bool.false_eq_true, not_false_eq_true])]
      · have g0 := zB_f h0
        simp only [g0, z10, z00, z01, true_or, true_and, if_false, if_true]
        rw [zB_f (show ¬ zRn 5 a b c = true by simp only [zRn, decide_eq_false h0, Bool.false_and, Bool.and_false, Bool.false_eq_true, not_false_eq_true])]
    | 6, _ =>
      have k0 : M 101 18 = nI 1 := hK 18 1 rfl
      obtain ⟨i0, c0⟩ := hin 18 (by omega)
      have k1 : M 101 19 = nI 1 := hK 19 1 rfl
      obtain ⟨i1, c1⟩ := hin 19 (by omega)
      have k2 : M 101 20 = nI 3 := hK 20 3 rfl
      obtain ⟨i2, c2⟩ := hin 20 (by omega)
      simp only [q27_17, q27_20, q27_22, q27_23, q27_24, q27_27, q27_30, q27_33, q27_35, q27_36, q27_37, q27_38, q27_39, q27_42, q27_45, q27_48, q27_50, q27_51, q27_52, q27_53, q27_54, q27_57, q27_60, q27_61, q27_64, q27_65, nI_add, Nat.reduceMul, Nat.reduceAdd, k0, k1, k2, i0, c0, i1, c1, i2, c2, true_and, t28_0, t28_1, t28_2, t28_3, z10, z11, z00, z01, or_true, true_or, if_false, if_true]
      by_cases h0 : zNd 8 a
      · have g0 := zB_t h0
        by_cases h1 : zNd 8 b
        · have g1 := zB_t h1
          by_cases h2 : zNd 60 c
          · have g2 := zB_t h2
            simp only [g0, g1, g2, z10, z11, or_true, true_and, if_false]
            rw [zB_t (show zRn 6 a b c = true by simp only [zRn, decide_eq_true h0, decide_eq_true h1, decide_eq_true h2, Bool.and_self])]
          · have g2 := zB_f h2
            simp only [g0, g1, g2, z10, z00, z01, true_or, true_and, if_false, if_true]
            rw [zB_f (show ¬ zRn 6 a b c = true by simp only [zRn, decide_eq_false h2, Bool.false_and, Bool.and_false, Bool.false_eq_true, not_false_eq_true])]
        · have g1 := zB_f h1
          simp only [g0, g1, z10, z00, z01, true_or, true_and, if_false, if_true]
          rw [zB_f (show ¬ zRn 6 a b c = true by simp only [zRn, decide_eq_false h1, Bool.false_and, Bool.and_false, Bool.false_eq_true, not_false_eq_true])]
      · have g0 := zB_f h0
        simp only [g0, z10, z00, z01, true_or, true_and, if_false, if_true]
        rw [zB_f (show ¬ zRn 6 a b c = true by simp only [zRn, decide_eq_false h0, Bool.false_and, Bool.and_false, Bool.false_eq_true, not_false_eq_true])]
    | 7, _ =>
      have k0 : M 101 21 = nI 1 := hK 21 1 rfl
      obtain ⟨i0, c0⟩ := hin 21 (by omega)
      have k1 : M 101 22 = nI 1 := hK 22 1 rfl
      obtain ⟨i1, c1⟩ := hin 22 (by omega)
      have k2 : M 101 23 = nI 3 := hK 23 3 rfl
      obtain ⟨i2, c2⟩ := hin 23 (by omega)
      simp only [q27_17, q27_20, q27_22, q27_23, q27_24, q27_27, q27_30, q27_33, q27_35, q27_36, q27_37, q27_38, q27_39, q27_42, q27_45, q27_48, q27_50, q27_51, q27_52, q27_53, q27_54, q27_57, q27_60, q27_61, q27_64, q27_65, nI_add, Nat.reduceMul, Nat.reduceAdd, k0, k1, k2, i0, c0, i1, c1, i2, c2, true_and, t28_0, t28_1, t28_2, t28_3, z10, z11, z00, z01, or_true, true_or, if_false, if_true]
      by_cases h0 : zNd 8 a
      · have g0 := zB_t h0
        by_cases h1 : zNd 8 b
        · have g1 := zB_t h1
          by_cases h2 : zNd 60 c
          · have g2 := zB_t h2
            simp only [g0, g1, g2, z10, z11, or_true, true_and, if_false]
            rw [zB_t (show zRn 7 a b c = true by simp only [zRn, decide_eq_true h0, decide_eq_true h1, decide_eq_true h2, Bool.and_self])]
          · have g2 := zB_f h2
            simp only [g0, g1, g2, z10, z00, z01, true_or, true_and, if_false, if_true]
            rw [zB_f (show ¬ zRn 7 a b c = true by simp only [zRn, decide_eq_false h2, Bool.false_and, Bool.and_false, Bool.false_eq_true, not_false_eq_true])]
        · have g1 := zB_f h1
          simp only [g0, g1, z10, z00, z01, true_or, true_and, if_false, if_true]
          rw [zB_f (show ¬ zRn 7 a b c = true by simp only [zRn, decide_eq_false h1, Bool.false_and, Bool.and_false, Bool.false_eq_true, not_false_eq_true])]
      · have g0 := zB_f h0
        simp only [g0, z10, z00, z01, true_or, true_and, if_false, if_true]
        rw [zB_f (show ¬ zRn 7 a b c = true by simp only [zRn, decide_eq_false h0, Bool.false_and, Bool.and_false, Bool.false_eq_true, not_false_eq_true])]
    | 8, _ =>
      have k0 : M 101 24 = nI 3 := hK 24 3 rfl
      obtain ⟨i0, c0⟩ := hin 24 (by omega)
      have k1 : M 101 25 = nI 0 := hK 25 0 rfl
      obtain ⟨i1, c1⟩ := hin 25 (by omega)
      have k2 : M 101 26 = nI 0 := hK 26 0 rfl
      obtain ⟨i2, c2⟩ := hin 26 (by omega)
      simp only [q27_17, q27_20, q27_22, q27_23, q27_24, q27_27, q27_30, q27_33, q27_35, q27_36, q27_37, q27_38, q27_39, q27_42, q27_45, q27_48, q27_50, q27_51, q27_52, q27_53, q27_54, q27_57, q27_60, q27_61, q27_64, q27_65, nI_add, Nat.reduceMul, Nat.reduceAdd, k0, k1, k2, i0, c0, i1, c1, i2, c2, true_and, t28_0, t28_1, t28_2, t28_3, z10, z11, z00, z01, or_true, true_or, if_false, if_true]
      by_cases h0 : zNd 60 a
      · have g0 := zB_t h0
        simp only [g0, z10, z11, or_true, true_and, if_false]
        rw [zB_t (show zRn 8 a b c = true by simp only [zRn, decide_eq_true h0, Bool.and_self])]
      · have g0 := zB_f h0
        simp only [g0, z10, z00, z01, true_or, true_and, if_false, if_true]
        rw [zB_f (show ¬ zRn 8 a b c = true by simp only [zRn, decide_eq_false h0, Bool.false_and, Bool.and_false, Bool.false_eq_true, not_false_eq_true])]
    | 9, _ =>
      have k0 : M 101 27 = nI 1 := hK 27 1 rfl
      obtain ⟨i0, c0⟩ := hin 27 (by omega)
      have k1 : M 101 28 = nI 0 := hK 28 0 rfl
      obtain ⟨i1, c1⟩ := hin 28 (by omega)
      have k2 : M 101 29 = nI 0 := hK 29 0 rfl
      obtain ⟨i2, c2⟩ := hin 29 (by omega)
      simp only [q27_17, q27_20, q27_22, q27_23, q27_24, q27_27, q27_30, q27_33, q27_35, q27_36, q27_37, q27_38, q27_39, q27_42, q27_45, q27_48, q27_50, q27_51, q27_52, q27_53, q27_54, q27_57, q27_60, q27_61, q27_64, q27_65, nI_add, Nat.reduceMul, Nat.reduceAdd, k0, k1, k2, i0, c0, i1, c1, i2, c2, true_and, t28_0, t28_1, t28_2, t28_3, z10, z11, z00, z01, or_true, true_or, if_false, if_true]
      by_cases h0 : zNd 8 a
      · have g0 := zB_t h0
        simp only [g0, z10, z11, or_true, true_and, if_false]
        rw [zB_t (show zRn 9 a b c = true by simp only [zRn, decide_eq_true h0, Bool.and_self])]
      · have g0 := zB_f h0
        simp only [g0, z10, z00, z01, true_or, true_and, if_false, if_true]
        rw [zB_f (show ¬ zRn 9 a b c = true by simp only [zRn, decide_eq_false h0, Bool.false_and, Bool.and_false, Bool.false_eq_true, not_false_eq_true])]
    | 10, _ =>
      have k0 : M 101 30 = nI 0 := hK 30 0 rfl
      obtain ⟨i0, c0⟩ := hin 30 (by omega)
      have k1 : M 101 31 = nI 0 := hK 31 0 rfl
      obtain ⟨i1, c1⟩ := hin 31 (by omega)
      have k2 : M 101 32 = nI 0 := hK 32 0 rfl
      obtain ⟨i2, c2⟩ := hin 32 (by omega)
      simp only [q27_17, q27_20, q27_22, q27_23, q27_24, q27_27, q27_30, q27_33, q27_35, q27_36, q27_37, q27_38, q27_39, q27_42, q27_45, q27_48, q27_50, q27_51, q27_52, q27_53, q27_54, q27_57, q27_60, q27_61, q27_64, q27_65, nI_add, Nat.reduceMul, Nat.reduceAdd, k0, k1, k2, i0, c0, i1, c1, i2, c2, true_and, t28_0, t28_1, t28_2, t28_3, z10, z11, z00, z01, or_true, true_or, if_false, if_true]
      rw [zB_t (show zRn 10 a b c = true by simp [zRn])]
  · rw [zB_f (by rw [zRb_no h]; simp)]
    have hor : o < 0 ∨ ¬ o ≤ nI 10 := by
      rw [← zNd_b (n := 10) (by omega)] at h
      by_cases q : o < 0
      · exact Or.inl q
      · right
        intro w
        exact h ⟨q, Int32.not_lt.mpr w⟩
    rcases hor with q | q
    · simp only [q27_0, q27_1, q27_4, q27_5, q27_7, q27_10, q27_11, q, if_true, zb0]
    · simp only [q27_0, q27_1, q27_4, q27_5, q27_7, q27_10, q27_11, q, if_false, zb0, ite_self]
theorem s79 {o a b c : Int32} : zT L 79 0 [.int o, .int a, .int b, .int c, .null] [] M Q ↔ Q (zB (zRb o a b c = true)) M := by
  have f2 : ∀ x : Int32, zT L 76 0 [.int x, .int (nI 0), .int (nI 1)] [] M = fun Q => Q (zB (zNd 2 x)) M := fun x => funext fun Q => propext (by rw [s76, zB_cg (zNd_d (n := 1) (by omega))])
  have f60 : ∀ x : Int32, zT L 76 0 [.int x, .int (nI 0), .int (nI 59)] [] M = fun Q => Q (zB (zNd 60 x)) M := fun x => funext fun Q => propext (by rw [s76, zB_cg (zNd_d (n := 59) (by omega))])
  simp only [q79_0, q79_1, q79_4, q79_6, t78]
  by_cases h : zNd 11 o
  · obtain ⟨k, hk, rfl⟩ := (zNd_iff (by omega)).mp h
    rw [zB_cg (show zRb (nI k) a b c = true ↔ zRn k a b c = true by rw [zRb_k hk])]
    match k, hk with
    | 0, _ =>
      simp only [q79_7_0, q79_7_1, q79_7_2, q79_7_3, q79_7_4, q79_7_5, q79_7_6, q79_7_7, q79_7_8, q79_7_9, q79_7_10, q79_64, q79_66, t78, f2, f60, zB_ok]
      rw [zB_cg (show zNd 8 a ↔ zRn 0 a b c = true by simp only [zRn, decide_eq_true_eq])]
    | 1, _ =>
      simp only [q79_7_0, q79_7_1, q79_7_2, q79_7_3, q79_7_4, q79_7_5, q79_7_6, q79_7_7, q79_7_8, q79_7_9, q79_7_10, q79_64, q79_66, t78, f2, f60, zB_ok]
      rw [zB_cg (show zNd 8 a ↔ zRn 1 a b c = true by simp only [zRn, decide_eq_true_eq])]
    | 2, _ =>
      simp only [q79_7_0, q79_7_1, q79_7_2, q79_7_3, q79_7_4, q79_7_5, q79_7_6, q79_7_7, q79_7_8, q79_7_9, q79_7_10, q79_67, q79_69, q79_72, q79_73, q79_76, q79_79, q79_80, q79_83, q79_84, t78, f2, f60, zB_ok]
      by_cases h0 : zNd 8 a
      · have g0 := zB_t h0
        by_cases h1 : zNd 8 b
        · have g1 := zB_t h1
          simp only [g0, g1, z10, z11, or_true, true_and, if_false]
          rw [zB_t (show zRn 2 a b c = true by simp only [zRn, decide_eq_true h0, decide_eq_true h1, Bool.and_self])]
        · have g1 := zB_f h1
          simp only [g0, g1, z10, z00, z01, true_or, true_and, if_false, if_true]
          rw [zB_f (show ¬ zRn 2 a b c = true by simp only [zRn, decide_eq_false h1, Bool.false_and, Bool.and_false, Bool.false_eq_true, not_false_eq_true])]
      · have g0 := zB_f h0
        simp only [g0, z10, z00, z01, true_or, true_and, if_false, if_true]
        rw [zB_f (show ¬ zRn 2 a b c = true by simp only [zRn, decide_eq_false h0, Bool.false_and, Bool.and_false, Bool.false_eq_true, not_false_eq_true])]
    | 3, _ =>
      simp only [q79_7_0, q79_7_1, q79_7_2, q79_7_3, q79_7_4, q79_7_5, q79_7_6, q79_7_7, q79_7_8, q79_7_9, q79_7_10, q79_85, q79_87, q79_90, q79_91, q79_94, q79_97, q79_98, q79_99, q79_100, q79_103, q79_106, q79_107, q79_110, q79_111, t78, f2, f60, zB_ok]
      by_cases h0 : zNd 8 a
      · have g0 := zB_t h0
        by_cases h1 : zNd 8 b
        · have g1 := zB_t h1
          by_cases h2 : zNd 2 c
          · have g2 := zB_t h2
            simp only [g0, g1, g2, z10, z11, or_true, true_and, if_false]
            rw [zB_t (show zRn 3 a b c = true by simp only [zRn, decide_eq_true h0, decide_eq_true h1, decide_eq_true h2, Bool.and_self])]
          · have g2 := zB_f h2
            simp only [g0, g1, g2, z10, z00, z01, true_or, true_and, if_false, if_true]
            rw [zB_f (show ¬ zRn 3 a b c = true by simp only [zRn, decide_eq_false h2, Bool.false_and, Bool.and_false, Bool.false_eq_true, not_false_eq_true])]
        · have g1 := zB_f h1
          simp only [g0, g1, z10, z00, z01, true_or, true_and, if_false, if_true]
          rw [zB_f (show ¬ zRn 3 a b c = true by simp only [zRn, decide_eq_false h1, Bool.false_and, Bool.and_false, Bool.false_eq_true, not_false_eq_true])]
      · have g0 := zB_f h0
        simp only [g0, z10, z00, z01, true_or, true_and, if_false, if_true]
        rw [zB_f (show ¬ zRn 3 a b c = true by simp only [zRn, decide_eq_false h0, Bool.false_and, Bool.and_false, Bool.false_eq_true, not_false_eq_true])]
    | 4, _ =>
      simp only [q79_7_0, q79_7_1, q79_7_2, q79_7_3, q79_7_4, q79_7_5, q79_7_6, q79_7_7, q79_7_8, q79_7_9, q79_7_10, q79_112, q79_114, q79_117, q79_118, q79_119, q79_120, q79_123, q79_126, q79_127, q79_130, q79_133, q79_134, q79_137, q79_138, t78, f2, f60, zB_ok]
      by_cases h0 : zNd 8 a
      · have g0 := zB_t h0
        by_cases h1 : zNd 2 b
        · have g1 := zB_t h1
          by_cases h2 : zNd 8 c
          · have g2 := zB_t h2
            simp only [g0, g1, g2, z10, z11, or_true, true_and, if_false]
            rw [zB_t (show zRn 4 a b c = true by simp only [zRn, decide_eq_true h0, decide_eq_true h1, decide_eq_true h2, Bool.and_self])]
          · have g2 := zB_f h2
            simp only [g0, g1, g2, z10, z00, z01, true_or, true_and, if_false, if_true]
            rw [zB_f (show ¬ zRn 4 a b c = true by simp only [zRn, decide_eq_false h2, Bool.false_and, Bool.and_false, Bool.false_eq_true, not_false_eq_true])]
        · have g1 := zB_f h1
          simp only [g0, g1, z10, z00, z01, true_or, true_and, if_false, if_true]
          rw [zB_f (show ¬ zRn 4 a b c = true by simp only [zRn, decide_eq_false h1, Bool.false_and, Bool.and_false, Bool.false_eq_true, not_false_eq_true])]
      · have g0 := zB_f h0
        simp only [g0, z10, z00, z01, true_or, true_and, if_false, if_true]
        rw [zB_f (show ¬ zRn 4 a b c = true by simp only [zRn, decide_eq_false h0, Bool.false_and, Bool.and_false, Bool.false_eq_true, not_false_eq_true])]
    | 5, _ =>
      simp only [q79_7_0, q79_7_1, q79_7_2, q79_7_3, q79_7_4, q79_7_5, q79_7_6, q79_7_7, q79_7_8, q79_7_9, q79_7_10, q79_139, q79_141, q79_144, q79_145, q79_146, q79_148, q79_151, q79_154, q79_155, q79_158, q79_159, t78, f2, f60, zB_ok]
      by_cases h0 : zNd 8 a
      · have g0 := zB_t h0
        by_cases h1 : zNd 60 b
        · have g1 := zB_t h1
          simp only [g0, g1, z10, z11, or_true, true_and, if_false]
          rw [zB_t (show zRn 5 a b c = true by simp only [zRn, decide_eq_true h0, decide_eq_true h1, Bool.and_self])]
        · have g1 := zB_f h1
          simp only [g0, g1, z10, z00, z01, true_or, true_and, if_false, if_true]
          rw [zB_f (show ¬ zRn 5 a b c = true by simp only [zRn, decide_eq_false h1, Bool.false_and, Bool.and_false, Bool.false_eq_true, not_false_eq_true])]
      · have g0 := zB_f h0
        simp only [g0, z10, z00, z01, true_or, true_and, if_false, if_true]
        rw [zB_f (show ¬ zRn 5 a b c = true by simp only [zRn, decide_eq_false h0, Bool.false_and, Bool.and_false, Bool.false_eq_true, not_false_eq_true])]
    | 6, _ =>
      simp only [q79_7_0, q79_7_1, q79_7_2, q79_7_3, q79_7_4, q79_7_5, q79_7_6, q79_7_7, q79_7_8, q79_7_9, q79_7_10, q79_160, q79_162, q79_165, q79_166, q79_169, q79_172, q79_173, q79_174, q79_176, q79_179, q79_182, q79_183, q79_186, q79_187, t78, f2, f60, zB_ok]
      by_cases h0 : zNd 8 a
      · have g0 := zB_t h0
        by_cases h1 : zNd 8 b
        · have g1 := zB_t h1
          by_cases h2 : zNd 60 c
          · have g2 := zB_t h2
            simp only [g0, g1, g2, z10, z11, or_true, true_and, if_false]
            rw [zB_t (show zRn 6 a b c = true by simp only [zRn, decide_eq_true h0, decide_eq_true h1, decide_eq_true h2, Bool.and_self])]
          · have g2 := zB_f h2
            simp only [g0, g1, g2, z10, z00, z01, true_or, true_and, if_false, if_true]
            rw [zB_f (show ¬ zRn 6 a b c = true by simp only [zRn, decide_eq_false h2, Bool.false_and, Bool.and_false, Bool.false_eq_true, not_false_eq_true])]
        · have g1 := zB_f h1
          simp only [g0, g1, z10, z00, z01, true_or, true_and, if_false, if_true]
          rw [zB_f (show ¬ zRn 6 a b c = true by simp only [zRn, decide_eq_false h1, Bool.false_and, Bool.and_false, Bool.false_eq_true, not_false_eq_true])]
      · have g0 := zB_f h0
        simp only [g0, z10, z00, z01, true_or, true_and, if_false, if_true]
        rw [zB_f (show ¬ zRn 6 a b c = true by simp only [zRn, decide_eq_false h0, Bool.false_and, Bool.and_false, Bool.false_eq_true, not_false_eq_true])]
    | 7, _ =>
      simp only [q79_7_0, q79_7_1, q79_7_2, q79_7_3, q79_7_4, q79_7_5, q79_7_6, q79_7_7, q79_7_8, q79_7_9, q79_7_10, q79_160, q79_162, q79_165, q79_166, q79_169, q79_172, q79_173, q79_174, q79_176, q79_179, q79_182, q79_183, q79_186, q79_187, t78, f2, f60, zB_ok]
      by_cases h0 : zNd 8 a
      · have g0 := zB_t h0
        by_cases h1 : zNd 8 b
        · have g1 := zB_t h1
          by_cases h2 : zNd 60 c
          · have g2 := zB_t h2
            simp only [g0, g1, g2, z10, z11, or_true, true_and, if_false]
            rw [zB_t (show zRn 7 a b c = true by simp only [zRn, decide_eq_true h0, decide_eq_true h1, decide_eq_true h2, Bool.and_self])]
          · have g2 := zB_f h2
            simp only [g0, g1, g2, z10, z00, z01, true_or, true_and, if_false, if_true]
            rw [zB_f (show ¬ zRn 7 a b c = true by simp only [zRn, decide_eq_false h2, Bool.false_and, Bool.and_false, Bool.false_eq_true, not_false_eq_true])]
        · have g1 := zB_f h1
          simp only [g0, g1, z10, z00, z01, true_or, true_and, if_false, if_true]
          rw [zB_f (show ¬ zRn 7 a b c = true by simp only [zRn, decide_eq_false h1, Bool.false_and, Bool.and_false, Bool.false_eq_true, not_false_eq_true])]
      · have g0 := zB_f h0
        simp only [g0, z10, z00, z01, true_or, true_and, if_false, if_true]
        rw [zB_f (show ¬ zRn 7 a b c = true by simp only [zRn, decide_eq_false h0, Bool.false_and, Bool.and_false, Bool.false_eq_true, not_false_eq_true])]
    | 8, _ =>
      simp only [q79_7_0, q79_7_1, q79_7_2, q79_7_3, q79_7_4, q79_7_5, q79_7_6, q79_7_7, q79_7_8, q79_7_9, q79_7_10, q79_188, q79_189, q79_190, q79_192, q79_195, t78, f2, f60, zB_ok]
      rw [zB_cg (show zNd 60 a ↔ zRn 8 a b c = true by simp only [zRn, decide_eq_true_eq])]
    | 9, _ =>
      simp only [q79_7_0, q79_7_1, q79_7_2, q79_7_3, q79_7_4, q79_7_5, q79_7_6, q79_7_7, q79_7_8, q79_7_9, q79_7_10, q79_64, q79_66, t78, f2, f60, zB_ok]
      rw [zB_cg (show zNd 8 a ↔ zRn 9 a b c = true by simp only [zRn, decide_eq_true_eq])]
    | 10, _ =>
      simp only [q79_7_0, q79_7_1, q79_7_2, q79_7_3, q79_7_4, q79_7_5, q79_7_6, q79_7_7, q79_7_8, q79_7_9, q79_7_10, q79_196, q79_197, t78, f2, f60, zb1]
      rw [zB_t (show zRn 10 a b c = true by simp [zRn])]
  · have hout : o.toInt < 0 ∨ 10 < o.toInt := by omega
    rw [q79_7_d hout]
    simp only [q79_198, q79_199, zb0]
    rw [zB_f (show ¬ zRb o a b c = true by rw [zRb_no h]; simp)]
end ZA
