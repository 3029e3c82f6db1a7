/-! starts that are chains: pure, and the class's build of them; become -/
def zLk (F k : Nat) : Nat → Option Nat := fun j => if j % 2 = 0 then (if j / 2 + 1 < k then some (j / 2 + 1) else if F = 3 then some 0 else none) else (if F = 2 ∧ 0 < j / 2 then some (j / 2 - 1) else none)
def zLp (F i : Nat) : Nat → Option Nat := fun j => if j % 2 = 0 then (if j / 2 + 1 < i then some (j / 2 + 1) else none) else (if F = 2 ∧ 0 < j / 2 ∧ j / 2 < i then some (j / 2 - 1) else none)
def zHv (v k : Nat) : Nat → Option Nat := fun w => if w = v then (if 0 < k then some 0 else none) else none
def zDg (k r i : Nat) : Nat := r / 3 ^ (k - 1 - i) % 3
def zNfl (k r : Nat) : Bool := (List.range (k - 1)).all (fun i => decide (zDg k r i ≤ zDg k r (i + 1)))
def zVal (F k r : Nat) : Bool := decide (F ≠ 5) || zNfl k r
theorem zV_ext {M : za_M} {cn fn ck cl cv : Nat} {S S' : zS} (h : zV M cn fn ck cl cv S) (h1 : S'.1 = S.1) (h2 : ∀ i, i < S.1 → S'.2.1 i = S.2.1 i) (h3 : ∀ j, j < 2 * S.1 → S'.2.2.1 j = S.2.2.1 j) (h4 : ∀ v, v < 8 → S'.2.2.2 v = S.2.2.2 v) : zV M cn fn ck cl cv S' := by
  obtain ⟨g1, g2, g3, g4⟩ := h
  refine ⟨by rw [h1]; exact g1, fun i hi => ?_, fun j hj => ?_, fun v hv => ?_⟩
  · rw [h1] at hi; rw [h2 i hi]; exact g2 i hi
  · rw [h1] at hj; rw [h3 j hj]; exact g3 j hj
  · rw [h4 v hv]; exact g4 v hv
theorem zDg_lt (k r i : Nat) : zDg k r i < 3 := Nat.mod_lt _ (by decide)
theorem zPw {k : Nat} (hk : k ≤ 5) : 3 ^ k ≤ 243 := Nat.pow_le_pow_right (n := 3) (by decide) hk
theorem zPw4 {k : Nat} (hk : k ≤ 5) : 4 ^ k ≤ 1024 := Nat.pow_le_pow_right (n := 4) (by decide) hk
section ZA
variable {L : Nat} {M : za_M} {Q : Int32 → za_M → Prop} {h : Nat}
theorem zE_cpy {f g : Nat → Int32} {n j : Nat} (hj : j < n) : va_cpy f g 0 0 n j = f j := sb_cpy0 hj
theorem s2 (hH : za_H h) {h2 : Nat} (hH2 : za_H h2) (hne : h2 ≠ h) {S : zS} (hS : zC M h2 S) (hK : zK S) : zT L 2 0 [.ref h, .ref h2] [] M (fun _ M' => zC M' h S ∧ ∀ c, (c < h ∨ h + 4 ≤ c) → M' c = M c) := by
  have h24 := hK.1
  obtain ⟨a1, a2, a3, a4, a5, a6, -, -⟩ := za_Hk (L := L) hH
  obtain ⟨b1, b2, b3, b4, b5, b6, -, -⟩ := za_Hk (L := L) hH2
  have hap : (h2 + 6 ≤ h ∨ h + 6 ≤ h2) := by
    rcases hH with rfl | rfl | rfl <;> rcases hH2 with rfl | rfl | rfl <;> omega
  have n24 : (nI 24).toNatClampNeg = 24 := by decide
  have n48 : (nI 48).toNatClampNeg = 48 := by decide
  have n8 : (nI 8).toNatClampNeg = 8 := by decide
  have k1 : za_cpk L (h2 + 1) (h + 1) (nI 24) := ⟨by omega, by omega, by decide, 24, 24, b1, a1, by decide, by decide⟩
  have k2 : za_cpk L (h2 + 2) (h + 2) (nI 48) := ⟨by omega, by omega, by decide, 48, 48, b2, a2, by decide, by decide⟩
  have k3 : za_cpk L (h2 + 3) (h + 3) (nI 8) := ⟨by omega, by omega, by decide, 8, 8, b3, a3, by decide, by decide⟩
  simp only [q2_0, q2_1, q2_2, q2_5, q2_8, q2_9, q2_12, q2_13, q2_14, q2_17, q2_18, hH, hH2]
  rw [q2_20 k1]
  simp only [q2_23, q2_24, q2_27, q2_28, q2_29, q2_32, q2_33, hH, hH2]
  rw [q2_35 k2]
  simp only [q2_38, q2_39, q2_42, q2_43, q2_44, q2_47, q2_48, hH, hH2]
  rw [q2_50 k3, q2_53, n24, n48, n8]
  refine ⟨⟨?_, fun i hi => ?_, fun j hj => ?_, fun v hv => ?_⟩, fun c hc => ?_⟩
  · rw [za_row_ne (by omega), za_row_ne (by omega), za_row_ne (by omega), za_up_same]; exact hS.1
  · rw [za_row_ne (by omega), za_row_ne (by omega), za_row_eq, zE_cpy (by omega), za_up_oc (by omega)]; exact hS.2.1 i hi
  · rw [za_row_ne (by omega), za_row_eq, zE_cpy (by omega), za_row_ne (by omega), za_up_oc (by omega)]; exact hS.2.2.1 j hj
  · rw [za_row_eq, zE_cpy hv, za_row_ne (by omega), za_row_ne (by omega), za_up_oc (by omega)]; exact hS.2.2.2 v hv
  · rw [za_row_ne (by omega), za_row_ne (by omega), za_row_ne (by omega), za_up_ne (by omega)]
theorem s45 {F : Nat} (hF : F ≤ 6) : zT L 45 0 [.int (nI F)] [] M Q ↔ Q (nI (if F = 3 then 1 else 0)) M := by
  have e : nI F = nI 3 ↔ F = 3 := nI_eq (by omega) (by omega)
  simp only [q45_0, q45_1, q45_2, q45_5, q45_6, q45_9, q45_10, e]
  by_cases q : F = 3
  · rw [if_pos q, if_pos q]
  · rw [if_neg q, if_neg q]
theorem s46_loop {l0 : Value} {c k : Nat} (hc : c ≤ 4) (hk : k ≤ 5) : ∀ (d i : Nat), d + i = k → (zT L 46 16 [l0, .int (nI k), .int (nI c), .int (nI (c ^ i)), .int (nI i)] [] M Q ↔ Q (nI (c ^ k)) M) := by
  intro d
  induction d with
  | zero =>
    intro i hd
    have hik : i = k := by omega
    have e1 : nI k ≤ nI i := nI_le (by omega) (by omega)
    rw [q46_16, q46_18, q46_19, if_pos e1, hik]
    simp only [q46_32, q46_33]
  | succ d ih =>
    intro i hd
    have e1 : ¬ nI k ≤ nI i := nI_ge (by omega) (by omega)
    rw [q46_16, q46_18, q46_19, if_neg e1]
    simp only [q46_22, q46_23, q46_24, q46_25, q46_26, q46_29, pk_mul, nI_add]
    rw [← Nat.pow_succ]
    exact ih (i + 1) (by omega)
theorem s46 {F k : Nat} (hF : F ≤ 6) (hk : k ≤ 5) : zT L 46 0 [.int (nI F), .int (nI k), .null, .null, .null] [] M Q ↔ Q (nI ((if F = 4 then 4 else 3) ^ k)) M := by
  have e : nI F = nI 4 ↔ F = 4 := nI_eq (by omega) (by omega)
  simp only [q46_0, q46_1, q46_2, q46_5, q46_6, q46_9, q46_10, q46_11, q46_12, q46_13, q46_14, e]
  by_cases q : F = 4
  · rw [if_pos q, if_pos q]
    exact s46_loop (c := 4) (by omega) hk k 0 rfl
  · rw [if_neg q, if_neg q]
    exact s46_loop (c := 3) (by omega) hk k 0 rfl
theorem s49_loop (hH : za_H h) {F k : Nat} (hF : F ≤ 6) (hk : k ≤ 5) {ks : Nat → Int32} {vs : Nat → Option Nat} : ∀ (d i : Nat), d + i = k → 1 ≤ i → ∀ (M : za_M), zC M h (k, ks, zLp F i, vs) → (∀ M', zC M' h (k, ks, zLp F k, vs) → (∀ c, c ≠ h + 2 → M' c = M c) → zT L 49 36 [.ref h, .int (nI F), .int (nI k), .int (nI k)] [] M' Q) → zT L 49 2 [.ref h, .int (nI F), .int (nI k), .int (nI i)] [] M Q := by
  intro d
  induction d with
  | zero =>
    intro i hd h1 M hS kk
    have hik : i = k := by omega
    subst hik
    rw [q49_2, q49_3, q49_4, if_pos (Int32.le_refl _)]
    exact kk M hS (fun _ _ => rfl)
  | succ d ih =>
    intro i hd h1 M hS kk
    have e1 : ¬ nI k ≤ nI i := nI_ge (by omega) (by omega)
    have hm : nI i - nI 1 = nI (i - 1) := pk_sub h1
    have e2 : nI F = nI 2 ↔ F = 2 := nI_eq (by omega) (by omega)
    rw [q49_2, q49_3, q49_4, if_neg e1]
    simp only [q49_7, q49_8, q49_9, q49_10, q49_11, q49_12, q49_13, hH, hm, s10 hH hS.1 (show k ≤ 24 by omega) (show i - 1 < k by omega) (show 0 < 2 by omega)]
    rw [q49_16, q49_17, q49_18]
    have hS1 : zC (za_up M (h + 2) (2 * (i - 1) + 0) (nI i)) h (zS_link (k, ks, zLp F i, vs) (2 * (i - 1) + 0) (some i)) := zV_link (zAp_C h) hS _ (some i)
    have hfr : ∀ c, c ≠ h + 2 → za_up M (h + 2) (2 * (i - 1) + 0) (nI i) c = M c := fun c hc => za_up_ne hc
    by_cases hF2 : F = 2
    · rw [if_pos (e2.mpr hF2)]
      simp only [q49_21, q49_22, q49_23, q49_24, q49_25, q49_26, q49_27, hH, hm, s10 hH hS1.1 (show k ≤ 24 by omega) (show i < k by omega) (show 1 < 2 by omega), q49_30, q49_33, nI_add]
      have hS2 : zC (za_up (za_up M (h + 2) (2 * (i - 1) + 0) (nI i)) (h + 2) (2 * i + 1) (nI (i - 1))) h (zS_link (zS_link (k, ks, zLp F i, vs) (2 * (i - 1) + 0) (some i)) (2 * i + 1) (some (i - 1))) := zV_link (zAp_C h) hS1 _ (some (i - 1))
      refine ih (i + 1) (by omega) (by omega) _ (zV_ext hS2 rfl (fun _ _ => rfl) (fun j hj => ?_) (fun _ _ => rfl)) (fun M' a b => kk M' a (fun c hc => by rw [b c hc, za_up_ne hc, za_up_ne hc]))
      show zLp F (i + 1) j = if j = 2 * i + 1 then some (i - 1) else if j = 2 * (i - 1) + 0 then some i else zLp F i j
      unfold zLp
      by_cases c1 : j = 2 * i + 1
      · rw [if_pos c1, if_neg (by omega), if_pos ⟨hF2, by omega, by omega⟩]
        congr 1
        omega
      · rw [if_neg c1]
        by_cases c2 : j = 2 * (i - 1) + 0
        · rw [if_pos c2, if_pos (by omega), if_pos (by omega)]
          congr 1
          omega
        · rw [if_neg c2]
          by_cases c3 : j % 2 = 0
          · rw [if_pos c3, if_pos c3]
            by_cases c4 : j / 2 + 1 < i
            · rw [if_pos c4, if_pos (by omega)]
            · rw [if_neg c4, if_neg (by omega)]
          · rw [if_neg c3, if_neg c3]
            by_cases c4 : F = 2 ∧ 0 < j / 2 ∧ j / 2 < i
            · rw [if_pos c4, if_pos ⟨c4.1, c4.2.1, by omega⟩]
            · rw [if_neg c4, if_neg (fun q => c4 ⟨q.1, q.2.1, by omega⟩)]
    · rw [if_neg (fun q => hF2 (e2.mp q))]
      simp only [q49_30, q49_33, nI_add]
      refine ih (i + 1) (by omega) (by omega) _ (zV_ext hS1 rfl (fun _ _ => rfl) (fun j hj => ?_) (fun _ _ => rfl)) (fun M' a b => kk M' a (fun c hc => by rw [b c hc, za_up_ne hc]))
      show zLp F (i + 1) j = if j = 2 * (i - 1) + 0 then some i else zLp F i j
      unfold zLp
      by_cases c2 : j = 2 * (i - 1) + 0
      · rw [if_pos c2, if_pos (by omega), if_pos (by omega)]
        congr 1
        omega
      · rw [if_neg c2]
        by_cases c3 : j % 2 = 0
        · rw [if_pos c3, if_pos c3]
          by_cases c4 : j / 2 + 1 < i
          · rw [if_pos c4, if_pos (by omega)]
          · rw [if_neg c4, if_neg (by omega)]
        · rw [if_neg c3, if_neg c3, if_neg (fun q => hF2 q.1), if_neg (fun q => hF2 q.1)]
theorem s49 (hH : za_H h) {F k : Nat} (hF : F ≤ 6) (hk : k ≤ 5) (h3 : F = 3 → 1 ≤ k) {ks : Nat → Int32} {vs : Nat → Option Nat} (hS : zC M h (k, ks, fun _ => none, vs)) : zT L 49 0 [.ref h, .int (nI F), .int (nI k), .null] [] M (fun _ M' => zC M' h (k, ks, zLk F k, vs) ∧ ∀ c, c ≠ h + 2 → M' c = M c) := by
  simp only [q49_0, q49_1]
  have e2 : nI F = nI 3 ↔ F = 3 := nI_eq (by omega) (by omega)
  have hend : ∀ (M1 : za_M) (l3 : Value), 1 ≤ k → zC M1 h (k, ks, zLp F k, vs) → (∀ c, c ≠ h + 2 → M1 c = M c) → zT L 49 36 [.ref h, .int (nI F), .int (nI k), l3] [] M1 (fun _ M' => zC M' h (k, ks, zLk F k, vs) ∧ ∀ c, c ≠ h + 2 → M' c = M c) := by
    intro M1 l3 hk1 hS1 hfr
    rw [q49_36, q49_37, q49_38]
    by_cases hF3 : F = 3
    · have hm : nI k - nI 1 = nI (k - 1) := pk_sub hk1
      rw [if_pos (e2.mpr hF3)]
      simp only [q49_41, q49_42, q49_43, q49_44, q49_45, q49_46, q49_47, q49_50, hH, hm, s10 hH hS1.1 (show k ≤ 24 by omega) (show k - 1 < k by omega) (show 0 < 2 by omega)]
      have hS2 : zC (za_up M1 (h + 2) (2 * (k - 1) + 0) (nI 0)) h (zS_link (k, ks, zLp F k, vs) (2 * (k - 1) + 0) (some 0)) := zV_link (zAp_C h) hS1 _ (some 0)
      refine ⟨zV_ext hS2 rfl (fun _ _ => rfl) (fun j hj => ?_) (fun _ _ => rfl), fun c hc => by rw [za_up_ne hc, hfr c hc]⟩
      show zLk F k j = if j = 2 * (k - 1) + 0 then some 0 else zLp F k j
      have hj : j < 2 * k := hj
      unfold zLk zLp
      by_cases c2 : j = 2 * (k - 1) + 0
      · rw [if_pos c2, if_pos (by omega), if_neg (by omega), if_pos hF3]
      · rw [if_neg c2]
        by_cases c3 : j % 2 = 0
        · rw [if_pos c3, if_pos c3, if_pos (by omega), if_pos (by omega)]
        · rw [if_neg c3, if_neg c3, if_neg (by omega), if_neg (by omega)]
    · rw [if_neg (fun q => hF3 (e2.mp q)), q49_50]
      refine ⟨zV_ext hS1 rfl (fun _ _ => rfl) (fun j hj => ?_) (fun _ _ => rfl), hfr⟩
      show zLk F k j = zLp F k j
      have hj : j < 2 * k := hj
      unfold zLk zLp
      by_cases c3 : j % 2 = 0
      · rw [if_pos c3, if_pos c3, if_neg hF3]
      · rw [if_neg c3, if_neg c3]
        by_cases c4 : F = 2 ∧ 0 < j / 2
        · rw [if_pos c4, if_pos ⟨c4.1, c4.2, by omega⟩]
        · rw [if_neg c4, if_neg (fun q => c4 ⟨q.1, q.2.1⟩)]
  by_cases hk0 : k = 0
  · subst hk0
    have hF3 : ¬ F = 3 := fun q => by have := h3 q; omega
    have e1 : nI 0 ≤ nI 1 := by decide
    rw [q49_2, q49_3, q49_4, if_pos e1, q49_36, q49_37, q49_38, if_neg (fun q => hF3 (e2.mp q)), q49_50]
    exact ⟨zV_ext hS rfl (fun _ _ => rfl) (fun j hj => absurd hj (by show ¬ j < 2 * 0; omega)) (fun _ _ => rfl), fun _ _ => rfl⟩
  · refine s49_loop hH hF hk (k - 1) 1 (by omega) (Nat.le_refl _) M (zV_ext hS rfl (fun _ _ => rfl) (fun j hj => ?_) (fun _ _ => rfl)) (fun M1 a b => hend M1 _ (by omega) a b)
    show zLp F 1 j = none
    unfold zLp
    by_cases c3 : j % 2 = 0
    · rw [if_pos c3, if_neg (by omega)]
    · rw [if_neg c3, if_neg (by omega)]
end ZA
