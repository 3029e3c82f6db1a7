/-! the model keeps its heap, takes it back; its claim -/
section ZA
variable {L : Nat} {M : za_M} {Q : Int32 → za_M → Prop}
theorem s103_10 : ∀ (d k : Nat), d + k = 48 → ∀ (M : za_M), (∀ M', (∀ j, k ≤ j → j < 48 → M' 39 j = M 27 j) → (∀ j, j < k → M' 39 j = M 39 j) → (∀ c, c ≠ 39 → M' c = M c) → zT L 103 34 [.ref 26, .int (nI 48)] [] M' Q) → zT L 103 10 [.ref 26, .int (nI k)] [] M Q := by
  intro d
  induction d with
  | zero =>
    intro k hk M kk
    have hk : k = 48 := by omega
    subst hk
    rw [q103_10, q103_11, q103_13, if_pos (Int32.le_refl _)]
    exact kk M (fun j a b => by omega) (fun _ _ => rfl) (fun _ _ => rfl)
  | succ d ih =>
    intro k hk M kk
    have e1 : ¬ nI 48 ≤ nI k := nI_ge (by omega) (by omega)
    have e2 : (nI k).toNatClampNeg = k := nI_clamp (by omega)
    have e3 : za_in L 27 false (nI k) := za_in_of (n := 48) rfl (by omega) (by omega)
    have e4 : za_in L 39 false (nI k) := za_in_of (n := 48) rfl (by omega) (by omega)
    rw [q103_10, q103_11, q103_13, if_neg e1]
    simp only [q103_16, q103_17, q103_20, q103_21, q103_22, q103_25, q103_26, q103_27, q103_28, q103_31, e2, e3, e4, true_and, nI_add, Nat.reduceLT]
    refine ih (k + 1) (by omega) _ (fun M' a b c => kk M' (fun j h1 h2 => ?_) (fun j hj => ?_) (fun x hx => by rw [c x hx, za_up_ne hx]))
    · by_cases e : j = k
      · subst e; rw [b j (by omega), za_up_same]
      · rw [a j (by omega) h2, za_up_oc (by decide)]
    · rw [b j (by omega), za_up_oi (by omega)]
theorem s103_36 : ∀ (d k : Nat), d + k = 24 → ∀ (M : za_M), (∀ M', (∀ j, k ≤ j → j < 24 → M' 40 j = M 28 j) → (∀ j, j < k → M' 40 j = M 40 j) → (∀ c, c ≠ 40 → M' c = M c) → zT L 103 60 [.ref 26, .int (nI 24)] [] M' Q) → zT L 103 36 [.ref 26, .int (nI k)] [] M Q := by
  intro d
  induction d with
  | zero =>
    intro k hk M kk
    have hk : k = 24 := by omega
    subst hk
    rw [q103_36, q103_37, q103_39, if_pos (Int32.le_refl _)]
    exact kk M (fun j a b => by omega) (fun _ _ => rfl) (fun _ _ => rfl)
  | succ d ih =>
    intro k hk M kk
    have e1 : ¬ nI 24 ≤ nI k := nI_ge (by omega) (by omega)
    have e2 : (nI k).toNatClampNeg = k := nI_clamp (by omega)
    have e3 : za_in L 28 false (nI k) := za_in_of (n := 24) rfl (by omega) (by omega)
    have e4 : za_in L 40 false (nI k) := za_in_of (n := 24) rfl (by omega) (by omega)
    rw [q103_36, q103_37, q103_39, if_neg e1]
    simp only [q103_42, q103_43, q103_46, q103_47, q103_48, q103_51, q103_52, q103_53, q103_54, q103_57, e2, e3, e4, true_and, nI_add, Nat.reduceLT]
    refine ih (k + 1) (by omega) _ (fun M' a b c => kk M' (fun j h1 h2 => ?_) (fun j hj => ?_) (fun x hx => by rw [c x hx, za_up_ne hx]))
    · by_cases e : j = k
      · subst e; rw [b j (by omega), za_up_same]
      · rw [a j (by omega) h2, za_up_oc (by decide)]
    · rw [b j (by omega), za_up_oi (by omega)]
theorem s103_62 : ∀ (d k : Nat), d + k = 8 → ∀ (M : za_M), (∀ M', (∀ j, k ≤ j → j < 8 → M' 41 j = M 29 j) → (∀ j, j < k → M' 41 j = M 41 j) → (∀ c, c ≠ 41 → M' c = M c) → zT L 103 86 [.ref 26, .int (nI 8)] [] M' Q) → zT L 103 62 [.ref 26, .int (nI k)] [] M Q := by
  intro d
  induction d with
  | zero =>
    intro k hk M kk
    have hk : k = 8 := by omega
    subst hk
    rw [q103_62, q103_63, q103_65, if_pos (Int32.le_refl _)]
    exact kk M (fun j a b => by omega) (fun _ _ => rfl) (fun _ _ => rfl)
  | succ d ih =>
    intro k hk M kk
    have e1 : ¬ nI 8 ≤ nI k := nI_ge (by omega) (by omega)
    have e2 : (nI k).toNatClampNeg = k := nI_clamp (by omega)
    have e3 : za_in L 29 false (nI k) := za_in_of (n := 8) rfl (by omega) (by omega)
    have e4 : za_in L 41 false (nI k) := za_in_of (n := 8) rfl (by omega) (by omega)
    rw [q103_62, q103_63, q103_65, if_neg e1]
    simp only [q103_68, q103_69, q103_72, q103_73, q103_74, q103_77, q103_78, q103_79, q103_80, q103_83, e2, e3, e4, true_and, nI_add, Nat.reduceLT]
    refine ih (k + 1) (by omega) _ (fun M' a b c => kk M' (fun j h1 h2 => ?_) (fun j hj => ?_) (fun x hx => by rw [c x hx, za_up_ne hx]))
    · by_cases e : j = k
      · subst e; rw [b j (by omega), za_up_same]
      · rw [a j (by omega) h2, za_up_oc (by decide)]
    · rw [b j (by omega), za_up_oi (by omega)]
theorem s104_10 : ∀ (d k : Nat), d + k = 48 → ∀ (M : za_M), (∀ M', (∀ j, k ≤ j → j < 48 → M' 27 j = M 39 j) → (∀ j, j < k → M' 27 j = M 27 j) → (∀ c, c ≠ 27 → M' c = M c) → zT L 104 34 [.ref 26, .int (nI 48)] [] M' Q) → zT L 104 10 [.ref 26, .int (nI k)] [] M Q := by
  intro d
  induction d with
  | zero =>
    intro k hk M kk
    have hk : k = 48 := by omega
    subst hk
    rw [q104_10, q104_11, q104_13, if_pos (Int32.le_refl _)]
    exact kk M (fun j a b => by omega) (fun _ _ => rfl) (fun _ _ => rfl)
  | succ d ih =>
    intro k hk M kk
    have e1 : ¬ nI 48 ≤ nI k := nI_ge (by omega) (by omega)
    have e2 : (nI k).toNatClampNeg = k := nI_clamp (by omega)
    have e3 : za_in L 39 false (nI k) := za_in_of (n := 48) rfl (by omega) (by omega)
    have e4 : za_in L 27 false (nI k) := za_in_of (n := 48) rfl (by omega) (by omega)
    rw [q104_10, q104_11, q104_13, if_neg e1]
    simp only [q104_16, q104_17, q104_20, q104_21, q104_22, q104_25, q104_26, q104_27, q104_28, q104_31, e2, e3, e4, true_and, nI_add, Nat.reduceLT]
    refine ih (k + 1) (by omega) _ (fun M' a b c => kk M' (fun j h1 h2 => ?_) (fun j hj => ?_) (fun x hx => by rw [c x hx, za_up_ne hx]))
    · by_cases e : j = k
      · subst e; rw [b j (by omega), za_up_same]
      · rw [a j (by omega) h2, za_up_oc (by decide)]
    · rw [b j (by omega), za_up_oi (by omega)]
theorem s104_36 : ∀ (d k : Nat), d + k = 24 → ∀ (M : za_M), (∀ M', (∀ j, k ≤ j → j < 24 → M' 28 j = M 40 j) → (∀ j, j < k → M' 28 j = M 28 j) → (∀ c, c ≠ 28 → M' c = M c) → zT L 104 60 [.ref 26, .int (nI 24)] [] M' Q) → zT L 104 36 [.ref 26, .int (nI k)] [] M Q := by
  intro d
  induction d with
  | zero =>
    intro k hk M kk
    have hk : k = 24 := by omega
    subst hk
    rw [q104_36, q104_37, q104_39, if_pos (Int32.le_refl _)]
    exact kk M (fun j a b => by omega) (fun _ _ => rfl) (fun _ _ => rfl)
  | succ d ih =>
    intro k hk M kk
    have e1 : ¬ nI 24 ≤ nI k := nI_ge (by omega) (by omega)
    have e2 : (nI k).toNatClampNeg = k := nI_clamp (by omega)
    have e3 : za_in L 40 false (nI k) := za_in_of (n := 24) rfl (by omega) (by omega)
    have e4 : za_in L 28 false (nI k) := za_in_of (n := 24) rfl (by omega) (by omega)
    rw [q104_36, q104_37, q104_39, if_neg e1]
    simp only [q104_42, q104_43, q104_46, q104_47, q104_48, q104_51, q104_52, q104_53, q104_54, q104_57, e2, e3, e4, true_and, nI_add, Nat.reduceLT]
    refine ih (k + 1) (by omega) _ (fun M' a b c => kk M' (fun j h1 h2 => ?_) (fun j hj => ?_) (fun x hx => by rw [c x hx, za_up_ne hx]))
    · by_cases e : j = k
      · subst e; rw [b j (by omega), za_up_same]
      · rw [a j (by omega) h2, za_up_oc (by decide)]
    · rw [b j (by omega), za_up_oi (by omega)]
theorem s104_62 : ∀ (d k : Nat), d + k = 8 → ∀ (M : za_M), (∀ M', (∀ j, k ≤ j → j < 8 → M' 29 j = M 41 j) → (∀ j, j < k → M' 29 j = M 29 j) → (∀ c, c ≠ 29 → M' c = M c) → zT L 104 86 [.ref 26, .int (nI 8)] [] M' Q) → zT L 104 62 [.ref 26, .int (nI k)] [] M Q := by
  intro d
  induction d with
  | zero =>
    intro k hk M kk
    have hk : k = 8 := by omega
    subst hk
    rw [q104_62, q104_63, q104_65, if_pos (Int32.le_refl _)]
    exact kk M (fun j a b => by omega) (fun _ _ => rfl) (fun _ _ => rfl)
  | succ d ih =>
    intro k hk M kk
    have e1 : ¬ nI 8 ≤ nI k := nI_ge (by omega) (by omega)
    have e2 : (nI k).toNatClampNeg = k := nI_clamp (by omega)
    have e3 : za_in L 41 false (nI k) := za_in_of (n := 8) rfl (by omega) (by omega)
    have e4 : za_in L 29 false (nI k) := za_in_of (n := 8) rfl (by omega) (by omega)
    rw [q104_62, q104_63, q104_65, if_neg e1]
    simp only [q104_68, q104_69, q104_72, q104_73, q104_74, q104_77, q104_78, q104_79, q104_80, q104_83, e2, e3, e4, true_and, nI_add, Nat.reduceLT]
    refine ih (k + 1) (by omega) _ (fun M' a b c => kk M' (fun j h1 h2 => ?_) (fun j hj => ?_) (fun x hx => by rw [c x hx, za_up_ne hx]))
    · by_cases e : j = k
      · subst e; rw [b j (by omega), za_up_same]
      · rw [a j (by omega) h2, za_up_oc (by decide)]
    · rw [b j (by omega), za_up_oi (by omega)]
theorem s103 : zT L 103 0 [.ref 26, .null] [] M (fun _ M' => M' 26 19 = M 26 0 ∧ (∀ j, j < 48 → M' 39 j = M 27 j) ∧ (∀ j, j < 24 → M' 40 j = M 28 j) ∧ (∀ j, j < 8 → M' 41 j = M 29 j) ∧ (∀ f, f ≠ 19 → M' 26 f = M 26 f) ∧ ∀ c, c ≠ 26 → c ≠ 39 → c ≠ 40 → c ≠ 41 → M' c = M c) := by
  simp only [q103_0, q103_1, q103_2, q103_5, q103_8, q103_9]
  refine s103_10 48 0 rfl _ (fun M1 a1 _ c1 => ?_)
  simp only [q103_34, q103_35]
  refine s103_36 24 0 rfl _ (fun M2 a2 _ c2 => ?_)
  simp only [q103_60, q103_61]
  refine s103_62 8 0 rfl _ (fun M3 a3 _ c3 => ?_)
  rw [q103_86]
  refine ⟨?_, fun j hj => ?_, fun j hj => ?_, fun j hj => ?_, fun f hf => ?_, fun c x1 x2 x3 x4 => ?_⟩
  · rw [c3 26 (by decide), c2 26 (by decide), c1 26 (by decide), za_up_same]
  · rw [c3 39 (by decide), c2 39 (by decide), a1 j (Nat.zero_le _) hj, za_up_oc (by decide)]
  · rw [c3 40 (by decide), a2 j (Nat.zero_le _) hj, c1 28 (by decide), za_up_oc (by decide)]
  · rw [a3 j (Nat.zero_le _) hj, c2 29 (by decide), c1 29 (by decide), za_up_oc (by decide)]
  · rw [c3 26 (by decide), c2 26 (by decide), c1 26 (by decide), za_up_oi hf]
  · rw [c3 c x4, c2 c x3, c1 c x2, za_up_ne x1]
theorem s104 : zT L 104 0 [.ref 26, .null] [] M (fun _ M' => M' 26 0 = M 26 19 ∧ (∀ j, j < 48 → M' 27 j = M 39 j) ∧ (∀ j, j < 24 → M' 28 j = M 40 j) ∧ (∀ j, j < 8 → M' 29 j = M 41 j) ∧ (∀ f, f ≠ 0 → M' 26 f = M 26 f) ∧ ∀ c, c ≠ 26 → c ≠ 27 → c ≠ 28 → c ≠ 29 → M' c = M c) := by
  simp only [q104_0, q104_1, q104_2, q104_5, q104_8, q104_9]
  refine s104_10 48 0 rfl _ (fun M1 a1 _ c1 => ?_)
  simp only [q104_34, q104_35]
  refine s104_36 24 0 rfl _ (fun M2 a2 _ c2 => ?_)
  simp only [q104_60, q104_61]
  refine s104_62 8 0 rfl _ (fun M3 a3 _ c3 => ?_)
  rw [q104_86]
  refine ⟨?_, fun j hj => ?_, fun j hj => ?_, fun j hj => ?_, fun f hf => ?_, fun c x1 x2 x3 x4 => ?_⟩
  · rw [c3 26 (by decide), c2 26 (by decide), c1 26 (by decide), za_up_same]
  · rw [c3 27 (by decide), c2 27 (by decide), a1 j (Nat.zero_le _) hj, za_up_oc (by decide)]
  · rw [c3 28 (by decide), a2 j (Nat.zero_le _) hj, c1 40 (by decide), za_up_oc (by decide)]
  · rw [a3 j (Nat.zero_le _) hj, c2 41 (by decide), c1 41 (by decide), za_up_oc (by decide)]
  · rw [c3 26 (by decide), c2 26 (by decide), c1 26 (by decide), za_up_oi hf]
  · rw [c3 c x4, c2 c x3, c1 c x2, za_up_ne x1]
end ZA
