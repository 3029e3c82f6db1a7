/-! the class's tree check, and its hasForm -/
def zSn (M : za_M) (cm : Nat) (seen : List Nat) : Prop := ∀ t, t < 24 → M cm t = zB (t ∈ seen)
theorem zSn_up {M : za_M} {cm : Nat} {seen : List Nat} {t : Nat} (h : zSn M cm seen) : zSn (za_up M cm t (nI 1)) cm (t :: seen) := by
  intro x hx
  rw [za_up_at, if_pos rfl]
  by_cases e : x = t
  · rw [if_pos e, zB_t (by simp [e])]
  · rw [if_neg e, h x hx]
    exact zB_cg (by simp [e])
section ZA
variable {L : Nat} {M : za_M} {Q : Int32 → za_M → Prop} {h : Nat}
theorem s22_in (hH : za_H h) {S : zS} (hK : zK S) {row : List Nat} (hG : zG S.1 row) {i u : Nat} (hu : row[i]? = some u) : ∀ (d f : Nat), d + f = 2 → ∀ (seen : List Nat) (M : za_M) (l4 : Value), zC M h S → (∀ i t, row[i]? = some t → M (h + 4) i = nI t) → zSn M (h + 5) seen →
    (∀ M', zTi S.2.2.1 u d f seen = none → (∀ c, c ≠ h + 5 → M' c = M c) → Q (nI 0) M') →
    (∀ (M' : za_M) (s : List Nat) (l4 : Value), zTi S.2.2.1 u d f seen = some s → zSn M' (h + 5) s → (∀ c, c ≠ h + 5 → M' c = M c) → zT L 22 76 [.ref h, .int (nI row.length), .int (nI i), .int (nI 2), l4] [] M' Q) →
    zT L 22 34 [.ref h, .int (nI row.length), .int (nI i), .int (nI f), l4] [] M Q := by
  have h24 := hK.1
  have hlen := zG_len hG
  have hil := (List.getElem?_eq_some_iff.mp hu).1
  have hun := hG.2 u (List.mem_of_getElem? hu)
  intro d
  induction d with
  | zero =>
    intro f hf seen M l4 hS hR hM k0 k1
    have hf : f = 2 := by omega
    subst hf
    have e1 : nI 2 ≤ nI 2 := by decide
    rw [q22_34, q22_35, q22_36, if_pos e1]
    exact k1 M seen _ rfl hM (fun _ _ => rfl)
  | succ d ih =>
    intro f hf seen M l4 hS hR hM k0 k1
    have e1 : ¬ nI 2 ≤ nI f := nI_ge (by omega) (by omega)
    have e3 : (nI i).toNatClampNeg = i := nI_clamp (by omega)
    have e4 : za_in L (h + 4) false (nI i) := za_in_of (za_Hk hH).2.2.2.1 (by omega) (by omega)
    have e5 := hR i u hu
    have e6 := hS.2.2.1 (2 * u + f) (by omega)
    rw [q22_34, q22_35, q22_36, if_neg e1]
    simp only [q22_39, q22_40, q22_41, q22_44, q22_45, q22_46, q22_47, q22_50, q22_52, q22_54, hH, e3, e4, e5, true_and, s9 hH hS.1 h24 hun (show f < 2 by omega), e6]
    cases hlk : S.2.2.1 (2 * u + f) with
    | none =>
      have hz : zTi S.2.2.1 u (d + 1) f seen = zTi S.2.2.1 u d (f + 1) seen := by
        conv => lhs; unfold zTi
        rw [hlk]
      rw [hz] at k0 k1
      simp only [zE_n, q22_56, if_true, q22_70, q22_73, nI_add]
      exact ih (f + 1) (by omega) seen M _ hS hR hM k0 k1
    | some t =>
      have ht := hK.2.1 _ (show 2 * u + f < 2 * S.1 by omega) t hlk
      have f2 : ¬ nI t = zN := zN_ne (by omega)
      have f4 := hM t (by omega)
      by_cases hm : t ∈ seen
      · rw [zB_t hm] at f4
        have hz : zTi S.2.2.1 u (d + 1) f seen = none := by
          unfold zTi
          rw [hlk]
          exact if_pos hm
        simp only [zE_s, q22_56, q22_59, q22_60, q22_62, q22_65, q22_68, q22_69, hH, f2, if_false, s110y hH hS h24 ht f4, z00, if_true, true_or, true_and]
        exact k0 M hz (fun _ _ => rfl)
      · rw [zB_f hm] at f4
        have hz : zTi S.2.2.1 u (d + 1) f seen = zTi S.2.2.1 u d (f + 1) (t :: seen) := by
          conv => lhs; unfold zTi
          rw [hlk]
          exact if_neg hm
        rw [hz] at k0 k1
        simp only [zE_s, q22_56, q22_59, q22_60, q22_62, q22_65, q22_70, q22_73, hH, f2, if_false, s110w hH hS h24 ht f4, z10, nI_add]
        have hfr : ∀ c, c ≠ h + 5 → za_up M (h + 5) t (nI 1) c = M c := fun c hc => za_up_ne hc
        refine ih (f + 1) (by omega) (t :: seen) _ _ (zV_cg hS (hfr h (by omega)) (hfr (h + 1) (by omega)) (hfr (h + 2) (by omega)) (hfr (h + 3) (by omega))) (by rw [hfr (h + 4) (by omega)]; exact hR) (zSn_up hM) (fun M' a b => k0 M' a (fun c hc => (b c hc).trans (hfr c hc))) (fun M' s l4 a b c => k1 M' s l4 a b (fun x hx => (c x hx).trans (hfr x hx)))
theorem s22_out (hH : za_H h) {S : zS} (hK : zK S) {row : List Nat} (hG : zG S.1 row) : ∀ (suf : List Nat) (i : Nat), row.drop i = suf → i ≤ row.length → ∀ (seen : List Nat) (M : za_M) (l3 l4 : Value), zC M h S → (∀ i t, row[i]? = some t → M (h + 4) i = nI t) → zSn M (h + 5) seen →
    zT L 22 21 [.ref h, .int (nI row.length), .int (nI i), l3, l4] [] M (fun r M' => r = zB (zTo S.2.2.1 suf seen = true) ∧ ∀ c, c ≠ h + 5 → M' c = M c) := by
  have h24 := hK.1
  have hlen := zG_len hG
  intro suf
  induction suf with
  | nil =>
    intro i hd hi seen M l3 l4 hS hR hM
    have hil : row.length ≤ i := List.drop_eq_nil_iff.mp hd
    have e1 : nI row.length ≤ nI i := nI_le hil (by omega)
    rw [q22_21, q22_22, q22_23, if_pos e1]
    simp only [q22_82, q22_83, zb1]
    exact ⟨(zB_t (by simp [zTo])).symm, fun _ _ => True.intro⟩
  | cons u suf ih =>
    intro i hd hi seen M l3 l4 hS hR hM
    obtain ⟨hu, hd', hil⟩ := zDrop hd
    have e1 : ¬ nI row.length ≤ nI i := nI_ge hil (by omega)
    have e2 : ¬ nI 24 ≤ nI i := nI_ge (by omega) (by omega)
    rw [q22_21, q22_22, q22_23, if_neg e1, q22_26, q22_27, q22_29, if_neg e2, q22_32, q22_33]
    refine s22_in hH hK hG hu 2 0 rfl seen M _ hS hR hM (fun M' a b => ?_) (fun M' s l4' a b c => ?_)
    · refine ⟨(zB_f ?_).symm, b⟩
      unfold zTo
      rw [a]
      simp
    · simp only [q22_76, q22_79, nI_add]
      refine zT_mono (ih (i + 1) hd' hil s M' _ _ (zV_cg hS (c h (by omega)) (c (h + 1) (by omega)) (c (h + 2) (by omega)) (c (h + 3) (by omega))) (by rw [c (h + 4) (by omega)]; exact hR) b) ?_
      rintro r M2 ⟨t1, t2⟩
      refine ⟨?_, fun x hx => (t2 x hx).trans (c x hx)⟩
      rw [t1]
      conv => rhs; unfold zTo
      rw [a]
theorem s22 (hH : za_H h) {S : zS} (hS : zC M h S) (hK : zK S) {row : List Nat} (hG : zG S.1 row) (hR : zRw M (h + 4) (h + 5) row) : zT L 22 0 [.ref h, .int (nI row.length), .null, .null, .null] [] M (fun r M' => r = zB (zTo S.2.2.1 row (row[0]?).toList = true) ∧ ∀ c, c ≠ h + 5 → M' c = M c) := by
  have h24 := hK.1
  have hlen := zG_len hG
  simp only [q22_0, q22_1, hH]
  refine zT_mono (s15 hH) ?_
  rintro r M1 ⟨c1, c2⟩
  have hS1 : zC M1 h S := zV_cg hS (c2 h (by omega)) (c2 (h + 1) (by omega)) (c2 (h + 2) (by omega)) (c2 (h + 3) (by omega))
  have hR1 : ∀ i t, row[i]? = some t → M1 (h + 4) i = nI t := by rw [c2 (h + 4) (by omega)]; exact hR.1
  have hM1 : zSn M1 (h + 5) [] := fun t ht => by rw [c1 t ht, zB_f (by simp)]
  cases hu : row[0]? with
  | none =>
    have hl : row.length = 0 := by
      have := List.getElem?_eq_none_iff.mp hu
      omega
    have e1 : nI row.length ≤ 0 := by rw [hl]; decide
    simp only [q22_4, q22_5, e1, if_true, q22_19, q22_20]
    refine zT_mono (s22_out hH hK hG row 0 rfl (Nat.zero_le _) [] M1 _ _ hS1 hR1 hM1) ?_
    rintro r M2 ⟨t1, t2⟩
    exact ⟨t1, fun x hx => (t2 x hx).trans (c2 x hx)⟩
  | some u =>
    have hl := (List.getElem?_eq_some_iff.mp hu).1
    have hun := hG.2 u (List.mem_of_getElem? hu)
    have e1 : ¬ nI row.length ≤ 0 := nI_nle (by omega) (by omega)
    have e4 : za_in L (h + 4) false (nI 0) := za_in_of (za_Hk hH).2.2.2.1 (by omega) (by omega)
    have e5 : (nI 0).toNatClampNeg = 0 := nI_clamp (by omega)
    have e6 := hR1 0 u hu
    have f4 := c1 u (by omega)
    simp only [q22_4, q22_5, q22_8, q22_9, q22_10, q22_13, q22_14, q22_15, q22_18, q22_19, q22_20, hH, e1, if_false, e4, e5, e6, true_and, s110w hH hS1 h24 hun f4]
    have hfr : ∀ c, c ≠ h + 5 → za_up M1 (h + 5) u (nI 1) c = M1 c := fun c hc => za_up_ne hc
    refine zT_mono (s22_out hH hK hG row 0 rfl (Nat.zero_le _) [u] _ _ _ (zV_cg hS1 (hfr h (by omega)) (hfr (h + 1) (by omega)) (hfr (h + 2) (by omega)) (hfr (h + 3) (by omega))) (by rw [hfr (h + 4) (by omega)]; exact hR1) (zSn_up hM1)) ?_
    rintro r M2 ⟨t1, t2⟩
    exact ⟨t1, fun x hx => by rw [t2 x hx, hfr x hx, c2 x hx]⟩
theorem s16_1 (hH : za_H h) {S : zS} (hS : zC M h S) (hK : zK S) {v F : Nat} (hv : v < 8) (hF : F ≤ 6) (hF4 : F ≠ 4) (kk : ∀ M1, zC M1 h S → zG S.1 (zReach S v 1) → zRw M1 (h + 4) (h + 5) (zReach S v 1) → (∀ c, c ≠ h + 4 → c ≠ h + 5 → M1 c = M c) → zT L 16 16 [.ref h, .int (nI v), .int (nI F), .int (nI (zReach S v 1).length)] [] M1 Q) : zT L 16 0 [.ref h, .int (nI v), .int (nI F), .null] [] M Q := by
  have e1 : ¬ nI F = nI 4 := by rw [nI_eq (by omega) (by omega)]; exact hF4
  simp only [q16_0, q16_1, q16_2, q16_3, q16_4, q16_7, q16_8, q16_11, q16_12, hH, e1, if_false]
  refine zT_mono (s13 (g := 1) hH hS hK hv (Or.inl ⟨rfl, rfl⟩)) ?_
  rintro r M1 ⟨rfl, r2, r3, r4⟩
  simp only [q16_15]
  exact kk M1 (zV_cg hS (r4 h (by omega) (by omega)) (r4 (h + 1) (by omega) (by omega)) (r4 (h + 2) (by omega) (by omega)) (r4 (h + 3) (by omega) (by omega))) r2 r3 r4
/-- whether a variable has a form -/
theorem s16 (hH : za_H h) {S : zS} (hS : zC M h S) (hK : zK S) {v F : Nat} (hv : v < 8) (hF : F ≤ 6) : zT L 16 0 [.ref h, .int (nI v), .int (nI F), .null] [] M (fun r M' => r = zB (zForm S (S.2.2.2 v) F = true) ∧ ∀ c, c ≠ h + 4 → c ≠ h + 5 → M' c = M c) := by
  have hrow : zReach S v 1 = zRch S (S.2.2.2 v) 1 := rfl
  have hh0 := zRch_0 S (S.2.2.2 v) 1
  have : F = 0 ∨ F = 1 ∨ F = 2 ∨ F = 3 ∨ F = 4 ∨ F = 5 ∨ F = 6 := by omega
  rcases this with rfl | rfl | rfl | rfl | rfl | rfl | rfl
  · refine s16_1 hH hS hK hv (by omega) (by omega) (fun M1 a b c d => ?_)
    simp only [q16_16, q16_17_0, q16_17_1, q16_17_2, q16_17_3, q16_17_4, q16_17_5, q16_56, q16_57, q16_60, q16_61, q16_64, q16_65, zb1, zb0]
    have hl := zG_len b
    have h24 := hK.1
    have e1 : nI (zReach S v 1).length = 0 ↔ S.2.2.2 v = none := by
      rw [← nI_0, nI_eq (by omega) (by omega), hrow, zRch_nil]
    by_cases e : S.2.2.2 v = none
    · rw [if_pos (e1.mpr e)]
      exact ⟨(zB_t (by simp [zForm, e])).symm, d⟩
    · rw [if_neg (fun q => e (e1.mp q))]
      exact ⟨(zB_f (by simp [zForm, e])).symm, d⟩
  · refine s16_1 hH hS hK hv (by omega) (by omega) (fun M1 a b c d => ?_)
    simp only [q16_16, q16_17_0, q16_17_1, q16_17_2, q16_17_3, q16_17_4, q16_17_5, q16_66, q16_67, q16_68, q16_71, hH, s18 hH a hK b c, zB_ok]
    refine ⟨zB_cg ?_, d⟩
    simp [zForm, hrow]
  · refine s16_1 hH hS hK hv (by omega) (by omega) (fun M1 a b c d => ?_)
    simp only [q16_16, q16_17_0, q16_17_1, q16_17_2, q16_17_3, q16_17_4, q16_17_5, q16_72, q16_73, q16_74, q16_77, q16_80, q16_81, q16_82, q16_85, q16_88, q16_89, q16_92, q16_93, hH, s18 hH a hK b c, s20 hH a hK b c, zB_0, zb1, zb0]
    by_cases e : zBl S.2.2.1 (zReach S v 1) = none
    · rw [if_neg (not_not_intro e)]
      by_cases e2 : zLb S.2.2.1 none (zReach S v 1) = true
      · rw [if_neg (not_not_intro e2)]
        exact ⟨(zB_t (by rw [hrow] at e e2; simp [zForm, e, e2])).symm, d⟩
      · rw [if_pos e2]
        exact ⟨(zB_f (by rw [hrow] at e e2; simp [zForm, e2])).symm, d⟩
    · rw [if_pos e]
      exact ⟨(zB_f (by rw [hrow] at e; simp [zForm, e])).symm, d⟩
  · refine s16_1 hH hS hK hv (by omega) (by omega) (fun M1 a b c d => ?_)
    simp only [q16_16, q16_17_0, q16_17_1, q16_17_2, q16_17_3, q16_17_4, q16_17_5, q16_94, q16_95, q16_96, q16_99, hH, s19 hH a hK b c, zB_ok]
    refine ⟨zB_cg ?_, d⟩
    rw [hrow, hh0]
    simp [zForm]
  · have e1 : nI 4 = nI 4 := rfl
    simp only [q16_0, q16_1, q16_2, q16_3, q16_4, q16_7, q16_8, q16_11, q16_12, hH, if_true]
    refine zT_mono (s13 (g := 2) hH hS hK hv (Or.inr ⟨rfl, rfl⟩)) ?_
    rintro r M1 ⟨rfl, r2, r3, r4⟩
    have hS1 : zC M1 h S := zV_cg hS (r4 h (by omega) (by omega)) (r4 (h + 1) (by omega) (by omega)) (r4 (h + 2) (by omega) (by omega)) (r4 (h + 3) (by omega) (by omega))
    simp only [q16_15, q16_16, q16_17_0, q16_17_1, q16_17_2, q16_17_3, q16_17_4, q16_17_5, q16_100, q16_101, q16_102, hH]
    refine zT_mono (s22 hH hS1 hK r2 r3) ?_
    rintro r M2 ⟨rfl, t2⟩
    simp only [q16_105, zB_ok]
    refine ⟨zB_cg ?_, fun c c4 c5 => (t2 c c5).trans (r4 c c4 c5)⟩
    have hrow2 : zReach S v 2 = zRch S (S.2.2.2 v) 2 := rfl
    rw [hrow2, zRch_0]
    simp [zForm]
  · refine s16_1 hH hS hK hv (by omega) (by omega) (fun M1 a b c d => ?_)
    simp only [q16_16, q16_17_0, q16_17_1, q16_17_2, q16_17_3, q16_17_4, q16_17_5, q16_106, q16_107, q16_108, q16_111, q16_114, q16_115, q16_116, q16_119, q16_122, q16_123, q16_126, q16_127, hH, s18 hH a hK b c, s21 hH a hK b c, zB_0, zb1, zb0]
    by_cases e : zBl S.2.2.1 (zReach S v 1) = none
    · rw [if_neg (not_not_intro e)]
      by_cases e2 : zNf S.2.1 none (zReach S v 1) = true
      · rw [if_neg (not_not_intro e2)]
        exact ⟨(zB_t (by rw [hrow] at e e2; simp [zForm, e, e2])).symm, d⟩
      · rw [if_pos e2]
        exact ⟨(zB_f (by rw [hrow] at e e2; simp [zForm, e2])).symm, d⟩
    · rw [if_pos e]
      exact ⟨(zB_f (by rw [hrow] at e; simp [zForm, e])).symm, d⟩
  · refine s16_1 hH hS hK hv (by omega) (by omega) (fun M1 a b c d => ?_)
    rw [q16_16, q16_17_d (Or.inr (by decide))]
    simp only [q16_128, q16_129, q16_131, q16_134, q16_135, q16_138, q16_139, if_true, zb1]
    exact ⟨(zB_t (by simp [zForm])).symm, d⟩
end ZA
