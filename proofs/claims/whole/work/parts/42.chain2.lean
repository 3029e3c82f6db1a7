/-! the class builds a chain of a row of keys -/
theorem zNfl_iff {k r : Nat} : zNfl k r = true ↔ ∀ j, j + 1 < k → zDg k r j ≤ zDg k r (j + 1) := by
  unfold zNfl
  rw [List.all_eq_true]
  constructor
  · intro h j hj
    exact of_decide_eq_true (h j (List.mem_range.mpr (by omega)))
  · intro h j hj
    have := List.mem_range.mp hj
    exact decide_eq_true (h j (by omega))
theorem zVal_iff {F k r : Nat} : zVal F k r = true ↔ (F = 5 → ∀ j, j + 1 < k → zDg k r j ≤ zDg k r (j + 1)) := by
  unfold zVal
  rw [Bool.or_eq_true, zNfl_iff, decide_eq_true_eq]
  constructor
  · rintro (h | h) e
    · exact absurd e h
    · exact h
  · intro h
    by_cases e : F = 5
    · exact Or.inr (h e)
    · exact Or.inl e
section ZA
variable {L : Nat} {M : za_M} {Q : Int32 → za_M → Prop} {h : Nat}
set_option maxHeartbeats 2000000 in
theorem s48_loop (hH : za_H h) {F k r : Nat} (hF : F ≤ 6) (hk : k ≤ 5) (h3 : F = 3 → 1 ≤ k) {vs : Nat → Option Nat} : ∀ (d i : Nat), d + i = k → ∀ (le : Nat) (M : za_M) (l8 : Value), zC M h (i, fun j => nI (zDg k r j), fun _ => none, vs) → le = (if i = 0 then 0 else zDg k r (i - 1)) → (F = 5 → ∀ j, j + 1 < i → zDg k r j ≤ zDg k r (j + 1)) →
    zT L 48 16 [.ref h, .int (nI F), .int (nI k), .int (nI r), .int (nI (3 ^ d)), .int (nI (r % 3 ^ d)), .int (nI le), .int (nI i), l8] [] M (fun res M' => res = zB (zVal F k r = true) ∧ (zVal F k r = true → zC M' h (k, fun j => nI (zDg k r j), zLk F k, vs)) ∧ ∀ c, c ≠ h → c ≠ h + 1 → c ≠ h + 2 → M' c = M c) := by
  intro d
  induction d with
  | zero =>
    intro i hd le M l8 hS hle hnf
    have hik : i = k := by omega
    subst hik
    rw [q48_16, q48_18, q48_19, if_pos (Int32.le_refl _)]
    simp only [q48_85, q48_86, q48_87, q48_88]
    refine zT_mono (s49 hH hF hk h3 hS) ?_
    rintro r1 M1 ⟨a, b⟩
    simp only [q48_91, q48_92, zb1]
    exact ⟨(zB_t (zVal_iff.mpr hnf)).symm, fun _ => a, fun c _ _ c2 => b c c2⟩
  | succ d ih =>
    intro i hd le M l8 hS hle hnf
    have hik : i < k := by omega
    have hdk : k - 1 - i = d := by omega
    have hp : 3 ^ (d + 1) ≤ 243 := zPw (by omega)
    have hps : 3 ^ (d + 1) = 3 ^ d * 3 := Nat.pow_succ 3 d
    have hp0 : 0 < 3 ^ d := Nat.pow_pos (by decide)
    have hkey : r % 3 ^ (d + 1) / 3 ^ d = zDg k r i := by
      unfold zDg
      rw [hdk, hps, Nat.mod_mul_right_div_self]
    have hx : r % 3 ^ (d + 1) < 3 ^ (d + 1) := Nat.mod_lt _ (Nat.pow_pos (by decide))
    have hrest : r % 3 ^ (d + 1) - zDg k r i * 3 ^ d = r % 3 ^ d := by
      rw [← hkey]
      have h1 := Nat.div_add_mod (r % 3 ^ (d + 1)) (3 ^ d)
      have h2 : r % 3 ^ (d + 1) % 3 ^ d = r % 3 ^ d := by rw [hps, Nat.mod_mul_right_mod]
      rw [h2] at h1
      rw [Nat.mul_comm (r % 3 ^ (d + 1) / 3 ^ d) (3 ^ d)]
      omega
    have hle2 : zDg k r i * 3 ^ d ≤ r % 3 ^ (d + 1) := by
      rw [← hkey]
      exact Nat.div_mul_le_self _ _
    have hdg := zDg_lt k r i
    have e1 : ¬ nI k ≤ nI i := nI_ge hik (by omega)
    have n3 : ¬ nI 3 = 0 := by decide
    have f1 : nI (3 ^ (d + 1)) / nI 3 = nI (3 ^ d) := by rw [pk_div (by omega) (by omega) (by omega), hps, Nat.mul_div_cancel _ (by omega)]
    have f2 : ¬ nI (3 ^ d) ≤ 0 := nI_nle hp0 (by omega)
    have f3 : ¬ nI (3 ^ d) = 0 := nI_ne0 hp0 (by omega)
    have f4 : nI (r % 3 ^ (d + 1)) / nI (3 ^ d) = nI (zDg k r i) := by rw [pk_div (by omega) hp0 (by omega), hkey]
    have f5 : nI (r % 3 ^ (d + 1)) - nI (zDg k r i) * nI (3 ^ d) = nI (r % 3 ^ d) := by rw [pk_mul, pk_sub hle2, hrest]
    have f6 : nI F = nI 5 ↔ F = 5 := nI_eq (by omega) (by omega)
    have hlelt : le < 3 := by
      rw [hle]
      split
      · omega
      · exact zDg_lt _ _ _
    have go : (F = 5 → le ≤ zDg k r i) → zT L 48 68 [.ref h, .int (nI F), .int (nI k), .int (nI r), .int (nI (3 ^ d)), .int (nI (r % 3 ^ d)), .int (nI le), .int (nI i), .int (nI (zDg k r i))] [] M (fun res M' => res = zB (zVal F k r = true) ∧ (zVal F k r = true → zC M' h (k, fun j => nI (zDg k r j), zLk F k, vs)) ∧ ∀ c, c ≠ h → c ≠ h + 1 → c ≠ h + 2 → M' c = M c) := by
      intro hok
      simp only [q48_68, q48_70, q48_72, q48_73, q48_75, q48_78, q48_79, q48_82, hH, s6 hH hS.1 (show i < 24 by omega), nI_add]
      have hA := zC_add (key := nI (zDg k r i)) hS
      refine zT_mono (ih (i + 1) (by omega) (zDg k r i) _ _ (zV_ext hA rfl (fun j hj => ?_) (fun j hj => ?_) (fun _ _ => rfl)) (by simp) (fun e j hj => ?_)) ?_
      · show nI (zDg k r j) = if j = i then nI (zDg k r i) else nI (zDg k r j)
        split
        · rename_i q; rw [q]
        · rfl
      · show none = if j = 2 * i ∨ j = 2 * i + 1 then none else none
        split <;> rfl
      · by_cases q : j + 1 = i
        · have h7 := hok e
          rw [hle, if_neg (by omega)] at h7
          have h8 : i - 1 = j := by omega
          rw [h8, ← q] at h7
          exact h7
        · exact hnf e j (by omega)
      · rintro res M1 ⟨a, b, c⟩
        exact ⟨a, b, fun x x1 x2 x3 => by rw [c x x1 x2 x3, zAdd_ne x1 x2 x3]⟩
    rw [q48_16, q48_18, q48_19, if_neg e1]
    simp only [q48_22, q48_24, q48_25, q48_26, q48_28, q48_30, q48_33, q48_35, q48_37, q48_38, q48_41, q48_42, q48_44, q48_46, q48_48, q48_50, q48_51, q48_52, n3, f1, f2, f3, f4, f5, not_false_eq_true, if_false, true_and]
    rw [q48_54, q48_55, q48_56]
    by_cases hF5 : F = 5
    · rw [if_pos (f6.mpr hF5), q48_59, q48_61, q48_63]
      by_cases hc : le ≤ zDg k r i
      · rw [if_pos (nI_le hc (by omega))]
        exact go (fun _ => hc)
      · rw [if_neg (nI_ge (by omega) (by omega))]
        simp only [q48_66, q48_67, zb0]
        have hi0 : ¬ i = 0 := by
          intro q
          rw [hle, if_pos q] at hc
          omega
        have hv : ¬ zVal F k r = true := by
          intro q
          have h7 := zVal_iff.mp q hF5 (i - 1) (by omega)
          rw [show i - 1 + 1 = i by omega] at h7
          rw [hle, if_neg hi0] at hc
          exact hc h7
        exact ⟨(zB_f hv).symm, fun q => absurd q hv, fun _ _ _ _ => True.intro⟩
    · rw [if_neg (fun q => hF5 (f6.mp q))]
      exact go (fun q => absurd q hF5)
theorem s48 (hH : za_H h) {F k r : Nat} (hF : F ≤ 6) (hF4 : F ≠ 4) (hk : k ≤ 5) (h3 : F = 3 → 1 ≤ k) (hr : r < 3 ^ k) {ks0 : Nat → Int32} {lk0 vs : Nat → Option Nat} (hS : zC M h (0, ks0, lk0, vs)) : zT L 48 0 [.ref h, .int (nI F), .int (nI k), .int (nI r), .null, .null, .null, .null, .null] [] M (fun res M' => res = zB (zVal F k r = true) ∧ (zVal F k r = true → zC M' h (k, fun j => nI (zDg k r j), zLk F k, vs)) ∧ ∀ c, c ≠ h → c ≠ h + 1 → c ≠ h + 2 → M' c = M c) := by
  simp only [q48_0, q48_1, q48_2, q48_5, q48_7, q48_8, q48_10, q48_11, q48_13, q48_14, s46 hF hk, if_neg hF4]
  have h1 := s48_loop (L := L) hH hF hk h3 (vs := vs) k 0 rfl (r := r) 0 M .null (zV_ext hS rfl (fun j hj => absurd hj (by show ¬ j < 0; omega)) (fun j hj => absurd hj (by show ¬ j < 2 * 0; omega)) (fun _ _ => rfl)) rfl (fun _ j hj => by omega)
  rw [Nat.mod_eq_of_lt hr] at h1
  exact h1
end ZA
