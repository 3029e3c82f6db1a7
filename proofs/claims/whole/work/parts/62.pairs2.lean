/-! the calls that tell, and the claim -/
section ZA
variable {L : Nat} {M : za_M} {p : Nat} {pr : Nat → zQ} {S : zS} {d : Nat} {la : Option Nat} {w : Nat}
theorem j_told (h : zJ M p pr S d la w) {x : Int32} : zPair L M 62 [.ref 0, .int x] 87 [.ref 26, .int x] := by
  obtain ⟨⟨hp, hq, hk⟩, ⟨hS, hS', hK⟩, ⟨h5, h9⟩, ⟨h6, h10⟩, ⟨hw, hw'⟩, hkd⟩ := id h
  unfold zPair
  by_cases h0 : x = nI 0
  · subst h0
    simp only [q62_0, q62_1_0, q62_1_1, q62_28, q62_29, q62_32, q62_35, q62_36, q62_37, q62_40, q62_43, q62_44, q62_45, s32, q87_0, q87_1, q87_4, q87_5, q87_8, q87_11, q87_12, q87_13, q87_16, q87_17, q87_20, q87_23, q87_24, z00, if_true]
    exact ⟨by rw [h5, h9], rfl, _, _, _, _, _, _, h⟩
  · have h0' : ¬ x = 0 := h0
    by_cases h1 : x = nI 1
    · subst h1
      simp only [q62_0, q62_1_0, q62_1_1, q62_28, q62_29, q62_32, q62_35, q62_36, q62_37, q62_40, q62_43, q62_44, q62_45, s33, q87_0, q87_1, q87_4, q87_5, q87_8, q87_11, q87_12, q87_13, q87_16, q87_17, q87_20, q87_23, q87_24, z10, if_false, if_true]
      exact ⟨by rw [h6, h10], rfl, _, _, _, _, _, _, h⟩
    · rw [q62_0, q62_1_d h0 h1]
      simp only [q62_44, q62_45, q87_0, q87_1, q87_4, q87_5, q87_8, q87_11, q87_12, q87_13, q87_16, q87_17, q87_20, q87_23, q87_24, h0', h1, if_false]
      exact ⟨True.intro, rfl, _, _, _, _, _, _, h⟩
theorem j_count (h : zJ M p pr S d la w) {x : Int32} : zPair L M 69 [.ref 0, .int x] 108 [.ref 26, .int x] := by
  obtain ⟨⟨hp, hq, hk⟩, ⟨hS, hS', hK⟩, ⟨h5, h9⟩, ⟨h6, h10⟩, ⟨hw, hw'⟩, hkd⟩ := id h
  have H6 : za_H 6 := Or.inl rfl
  unfold zPair
  by_cases h0 : x = nI 0
  · subst h0
    simp only [q69_0, q69_1_0, q69_1_1, q69_28, q69_29, q69_32, q69_35, q69_36, q69_37, q69_40, q69_43, q69_44, q69_45, H6, s3 H6, q108_0, q108_1, q108_4, q108_5, q108_8, q108_11, q108_12, q108_13, q108_16, q108_17, q108_20, q108_23, q108_24, z00, if_true]
    exact ⟨by rw [hS.1, hS'.1], rfl, _, _, _, _, _, _, h⟩
  · have h0' : ¬ x = 0 := h0
    by_cases h1 : x = nI 1
    · subst h1
      simp only [q69_0, q69_1_0, q69_1_1, q69_28, q69_29, q69_32, q69_35, q69_36, q69_37, q69_40, q69_43, q69_44, q69_45, H6, s31, q108_0, q108_1, q108_4, q108_5, q108_8, q108_11, q108_12, q108_13, q108_16, q108_17, q108_20, q108_23, q108_24, z10, if_false, if_true]
      exact ⟨by rw [hp.1, hq.1], rfl, _, _, _, _, _, _, h⟩
    · rw [q69_0, q69_1_d h0 h1]
      simp only [q69_44, q69_45, q108_0, q108_1, q108_4, q108_5, q108_8, q108_11, q108_12, q108_13, q108_16, q108_17, q108_20, q108_23, q108_24, h0', h1, if_false]
      exact ⟨True.intro, rfl, _, _, _, _, _, _, h⟩
theorem j_why (h : zJ M p pr S d la w) : zPair L M 68 [.ref 0] 107 [.ref 26] := by
  obtain ⟨⟨hp, hq, hk⟩, ⟨hS, hS', hK⟩, ⟨h5, h9⟩, ⟨h6, h10⟩, ⟨hw, hw'⟩, hkd⟩ := id h
  unfold zPair
  simp only [q68_0, q68_1, q68_4, q107_0, q107_1, q107_4]
  exact ⟨by rw [hw, hw'], rfl, _, _, _, _, _, _, h⟩
theorem j_held (h : zJ M p pr S d la w) {x : Int32} : zPair L M 63 [.ref 0, .int x] 88 [.ref 26, .int x] := by
  obtain ⟨⟨hp, hq, hk⟩, ⟨hS, hS', hK⟩, ⟨h5, h9⟩, ⟨h6, h10⟩, ⟨hw, hw'⟩, hkd⟩ := id h
  have H6 : za_H 6 := Or.inl rfl
  unfold zPair
  by_cases c1 : zNd 8 x
  · obtain ⟨k, hk1, rfl⟩ := (zNd_iff (by omega)).mp c1
    have e1 : za_in L 29 false (nI k) := za_in_of (n := 8) rfl (by omega) (by omega)
    have e2 : (nI k).toNatClampNeg = k := nI_clamp (by omega)
    simp only [q63_0, q63_1, q63_4, q63_7, q63_8, q63_11, q63_12, q63_15, q63_18, q63_19, H6, t71, zB_t c1, z10, if_false, s11 H6 hk1, q88_0, q88_1, q88_4, q88_7, q88_8, q88_11, q88_12, q88_13, q88_16, q88_17, t78, e1, e2, true_and]
    exact ⟨by rw [hS'.2.2.2 k hk1]; exact hS.2.2.2 k hk1, rfl, _, _, _, _, _, _, h⟩
  · simp only [q63_0, q63_1, q63_4, q63_7, q63_8, q63_11, q63_12, q63_15, q63_18, q63_19, H6, t71, zB_f c1, z00, if_true, q88_0, q88_1, q88_4, q88_7, q88_8, q88_11, q88_12, q88_13, q88_16, q88_17, t78]
    exact ⟨True.intro, rfl, _, _, _, _, _, _, h⟩
theorem j_of (h : zJ M p pr S d la w) {x f : Int32} : zPair L M 64 [.ref 0, .int x, .int f] 89 [.ref 26, .int x, .int f] := by
  obtain ⟨⟨hp, hq, hk⟩, ⟨hS, hS', hK⟩, ⟨h5, h9⟩, ⟨h6, h10⟩, ⟨hw, hw'⟩, hkd⟩ := id h
  have H6 : za_H 6 := Or.inl rfl
  have h24 := hK.1
  have f3 : ∀ (M : za_M) (x : Int32) (Q : Int32 → za_M → Prop), zT L 76 0 [.int x, .int (nI 0), .int (nI 2)] [] M Q ↔ Q (zB (zNd 3 x)) M := fun M x Q => by rw [s76, zB_cg (zNd_d (n := 2) (by omega))]
  unfold zPair
  by_cases c1 : zNd S.1 x
  · obtain ⟨k, hk1, rfl⟩ := (zNd_iff (by omega)).mp c1
    by_cases c2 : zNd 2 f
    · obtain ⟨g, hg, rfl⟩ := (zNd_iff (by omega)).mp c2
      have c3 : zNd 3 (nI g) := ⟨c2.1, by have := c2.2; omega⟩
      have e0 : ¬ nI g = nI 2 := by rw [nI_eq (by omega) (by omega)]; omega
      have e1 : za_in L 27 false (nI (2 * k + g)) := za_in_of (n := 48) rfl (by omega) (by omega)
      have e2 : (nI (2 * k + g)).toNatClampNeg = 2 * k + g := nI_clamp (by omega)
      simp only [q64_0, q64_1, q64_4, q64_5, q64_8, q64_11, q64_12, q64_13, q64_14, q64_17, q64_20, q64_21, q64_24, q64_25, q64_26, q64_29, q64_30, q64_31, q64_32, q64_35, q64_36, q64_39, q64_40, q64_43, q64_46, q64_47, H6, t4 H6 hS.1 h24, t72, zB_t c1, zB_t c2, z10, if_false, s9 H6 hS.1 h24 hk1 hg, q89_0, q89_1, q89_2, q89_5, q89_8, q89_9, q89_10, q89_11, q89_14, q89_17, q89_18, q89_19, q89_20, q89_21, q89_24, q89_25, q89_28, q89_29, q89_30, q89_33, q89_34, q89_37, q89_38, q89_39, q89_40, q89_41, q89_42, q89_43, t77 hS'.1 h24, f3, zB_t c3, e0, pk_mul, nI_add, e1, e2, true_and]
      exact ⟨by rw [hS'.2.2.1 _ (by omega)]; exact hS.2.2.1 _ (by omega), rfl, _, _, _, _, _, _, h⟩
    · by_cases c4 : f = nI 2
      · subst c4
        have c3 : zNd 3 (nI 2) := by decide
        have e1 : za_in L 28 false (nI k) := za_in_of (n := 24) rfl (by omega) (by omega)
        have e2 : (nI k).toNatClampNeg = k := nI_clamp (by omega)
        simp only [q64_0, q64_1, q64_4, q64_5, q64_8, q64_11, q64_12, q64_13, q64_14, q64_17, q64_20, q64_21, q64_24, q64_25, q64_26, q64_29, q64_30, q64_31, q64_32, q64_35, q64_36, q64_39, q64_40, q64_43, q64_46, q64_47, H6, t4 H6 hS.1 h24, t72, zB_t c1, zB_f c2, z10, z00, if_false, if_true, s7 H6 hS.1 h24 hk1, q89_0, q89_1, q89_2, q89_5, q89_8, q89_9, q89_10, q89_11, q89_14, q89_17, q89_18, q89_19, q89_20, q89_21, q89_24, q89_25, q89_28, q89_29, q89_30, q89_33, q89_34, q89_37, q89_38, q89_39, q89_40, q89_41, q89_42, q89_43, t77 hS'.1 h24, f3, zB_t c3, e1, e2, true_and]
        exact ⟨by rw [hS'.2.1 _ hk1]; exact hS.2.1 _ hk1, rfl, _, _, _, _, _, _, h⟩
      · have c3 : ¬ zNd 3 f := by
          intro q
          obtain ⟨g, hg, rfl⟩ := (zNd_iff (by omega)).mp q
          by_cases g2 : g = 2
          · exact c4 (by rw [g2])
          · exact c2 ((zNd_iff (by omega)).mpr ⟨g, by omega, rfl⟩)
        simp only [q64_0, q64_1, q64_4, q64_5, q64_8, q64_11, q64_12, q64_13, q64_14, q64_17, q64_20, q64_21, q64_24, q64_25, q64_26, q64_29, q64_30, q64_31, q64_32, q64_35, q64_36, q64_39, q64_40, q64_43, q64_46, q64_47, H6, t4 H6 hS.1 h24, t72, zB_t c1, zB_f c2, z10, z00, if_false, if_true, c4, q89_0, q89_1, q89_2, q89_5, q89_8, q89_9, q89_10, q89_11, q89_14, q89_17, q89_18, q89_19, q89_20, q89_21, q89_24, q89_25, q89_28, q89_29, q89_30, q89_33, q89_34, q89_37, q89_38, q89_39, q89_40, q89_41, q89_42, q89_43, t77 hS'.1 h24, f3, zB_f c3]
        exact ⟨True.intro, rfl, _, _, _, _, _, _, h⟩
  · simp only [q64_0, q64_1, q64_4, q64_5, q64_8, q64_11, q64_12, q64_13, q64_14, q64_17, q64_20, q64_21, q64_24, q64_25, q64_26, q64_29, q64_30, q64_31, q64_32, q64_35, q64_36, q64_39, q64_40, q64_43, q64_46, q64_47, H6, t4 H6 hS.1 h24, zB_f c1, z00, if_true, q89_0, q89_1, q89_2, q89_5, q89_8, q89_9, q89_10, q89_11, q89_14, q89_17, q89_18, q89_19, q89_20, q89_21, q89_24, q89_25, q89_28, q89_29, q89_30, q89_33, q89_34, q89_37, q89_38, q89_39, q89_40, q89_41, q89_42, q89_43, t77 hS'.1 h24]
    exact ⟨True.intro, rfl, _, _, _, _, _, _, h⟩
/-- the class has searched, the model has gathered: the heaps are as they were -/
theorem zJ_look {M1 M2 : za_M} (h : zJ M p pr S d la w) (b1 : ∀ c, c ≠ 10 → c ≠ 11 → M1 c = M c) (b2 : zHR M1 M2) : zJE M M2 := by
  obtain ⟨⟨hp, hq, hk⟩, ⟨hS, hS', hK⟩, ⟨h5, h9⟩, ⟨h6, h10⟩, ⟨hw, hw'⟩, hkd⟩ := id h
  have cc : ∀ c, c ≠ 10 → c ≠ 11 → c ≠ 26 → c ≠ 34 → c ≠ 35 → M2 c = M c := fun c x1 x2 x3 x4 x5 => by rw [b2.2 c x3 x4 x5, b1 c x1 x2]
  have cf : ∀ f, f ≠ 14 → M2 26 f = M 26 f := fun f hf => by rw [b2.1 f hf, b1 26 (by decide) (by decide)]
  refine zJ_heap h (fun c x1 x2 x3 x4 x5 x6 x7 x8 x9 x10 x11 x12 => cc c x5 x6 x7 x11 x12) (fun f _ f1 => cf f f1) (zV_cg hS (cc 6 (by decide) (by decide) (by decide) (by decide) (by decide)) (cc 7 (by decide) (by decide) (by decide) (by decide) (by decide)) (cc 8 (by decide) (by decide) (by decide) (by decide) (by decide)) (cc 9 (by decide) (by decide) (by decide) (by decide) (by decide))) ⟨?_, ?_, ?_, ?_⟩ hK
  · rw [cf 0 (by decide)]; exact hS'.1
  · rw [cc 28 (by decide) (by decide) (by decide) (by decide) (by decide)]; exact hS'.2.1
  · rw [cc 27 (by decide) (by decide) (by decide) (by decide) (by decide)]; exact hS'.2.2.1
  · rw [cc 29 (by decide) (by decide) (by decide) (by decide) (by decide)]; exact hS'.2.2.2
/-- the model's view, where the class has searched -/
theorem zMo_look {M1 : za_M} (hS' : zMo M S) (b1 : ∀ c, c ≠ 10 → c ≠ 11 → M1 c = M c) : zMo M1 S := zV_cg hS' (b1 26 (by decide) (by decide)) (b1 28 (by decide) (by decide)) (b1 27 (by decide) (by decide)) (b1 29 (by decide) (by decide))
theorem j_form (h : zJ M p pr S d la w) {x f : Int32} : zPair L M 65 [.ref 0, .int x, .int f] 96 [.ref 26, .int x, .int f] := by
  obtain ⟨⟨hp, hq, hk⟩, ⟨hS, hS', hK⟩, ⟨h5, h9⟩, ⟨h6, h10⟩, ⟨hw, hw'⟩, hkd⟩ := id h
  have H6 : za_H 6 := Or.inl rfl
  have f7 : ∀ (M : za_M) (x : Int32) (Q : Int32 → za_M → Prop), zT L 76 0 [.int x, .int (nI 0), .int (nI 6)] [] M Q ↔ Q (zB (zNd 7 x)) M := fun M x Q => by rw [s76, zB_cg (zNd_d (n := 6) (by omega))]
  unfold zPair
  by_cases c1 : zNd 8 x
  · by_cases c2 : zNd 7 f
    · obtain ⟨k, hk1, rfl⟩ := (zNd_iff (by omega)).mp c1
      obtain ⟨F, hF, rfl⟩ := (zNd_iff (by omega)).mp c2
      simp only [q65_0, q65_1, q65_4, q65_7, q65_8, q65_11, q65_14, q65_15, q65_16, q65_17, q65_20, q65_21, q65_22, H6, t71, t73, zB_t c1, zB_t c2, z10, if_false]
      refine zT_mono (s16 H6 hS hK hk1 (by omega)) ?_
      rintro r1 M1 ⟨rfl, b1⟩
      have b1' : ∀ c, c ≠ 10 → c ≠ 11 → M1 c = M c := b1
      have hS1 := zMo_look hS' b1'
      by_cases hf : zForm S (S.2.2.2 k) F = true
      · rw [zB_t hf]
        simp only [q65_25, q65_28, q65_29, q65_32, q65_33, z10, if_false, q96_0, q96_1, q96_4, q96_7, q96_8, q96_9, q96_11, q96_14, q96_17, q96_18, q96_19, q96_20, q96_21, q96_22, t78, f7, zB_t c1, zB_t c2]
        refine zT_mono (s95 hS1 hK hk1 (by omega)) ?_
        rintro r2 M2 ⟨rfl, b2⟩
        rw [zB_t hf]
        simp only [q96_25, q96_28, q96_29, q96_32, q96_33, z10, if_false]
        exact ⟨True.intro, zJ_look h b1' b2⟩
      · rw [zB_f hf]
        simp only [q65_25, q65_28, q65_29, q65_32, q65_33, z00, z10, if_true, if_false, q96_0, q96_1, q96_4, q96_7, q96_8, q96_9, q96_11, q96_14, q96_17, q96_18, q96_19, q96_20, q96_21, q96_22, t78, f7, zB_t c1, zB_t c2]
        refine zT_mono (s95 hS1 hK hk1 (by omega)) ?_
        rintro r2 M2 ⟨rfl, b2⟩
        rw [zB_f hf]
        simp only [q96_25, q96_28, q96_29, q96_32, q96_33, z00, if_true]
        exact ⟨True.intro, zJ_look h b1' b2⟩
    · simp only [q65_0, q65_1, q65_4, q65_7, q65_8, q65_11, q65_14, q65_15, H6, t71, t73, zB_t c1, zB_f c2, z10, z00, if_false, if_true, q96_0, q96_1, q96_4, q96_7, q96_8, q96_9, q96_11, q96_14, q96_17, q96_18, t78, f7]
      exact ⟨True.intro, rfl, _, _, _, _, _, _, h⟩
  · simp only [q65_0, q65_1, q65_4, q65_7, q65_8, q65_11, q65_14, q65_15, H6, t71, zB_f c1, z00, if_true, q96_0, q96_1, q96_4, q96_7, q96_8, q96_9, q96_11, q96_14, q96_17, q96_18, t78]
    exact ⟨True.intro, rfl, _, _, _, _, _, _, h⟩
theorem j_size (h : zJ M p pr S d la w) {x bo : Int32} {g : Nat} (hb : (bo = nI 0 ∧ g = 1) ∨ (bo = nI 1 ∧ g = 2)) : zPair L M 66 [.ref 0, .int x, .int bo] 97 [.ref 26, .int x, .int bo] := by
  obtain ⟨⟨hp, hq, hk⟩, ⟨hS, hS', hK⟩, ⟨h5, h9⟩, ⟨h6, h10⟩, ⟨hw, hw'⟩, hkd⟩ := id h
  have H6 : za_H 6 := Or.inl rfl
  unfold zPair
  by_cases c1 : zNd 8 x
  · obtain ⟨k, hk1, rfl⟩ := (zNd_iff (by omega)).mp c1
    have e1 : za_in L 29 false (nI k) := za_in_of (n := 8) rfl (by omega) (by omega)
    have e2 : (nI k).toNatClampNeg = k := nI_clamp (by omega)
    simp only [q66_0, q66_1, q66_4, q66_7, q66_8, q66_11, q66_12, q66_13, H6, t71, zB_t c1, z10, if_false]
    refine zT_mono (s13 H6 hS hK hk1 hb) ?_
    rintro r1 M1 ⟨rfl, a1, c1', b1⟩
    have b1' : ∀ c, c ≠ 10 → c ≠ 11 → M1 c = M c := b1
    have hS1 := zMo_look hS' b1'
    simp only [q66_16, q66_19, q66_20, q97_0, q97_1, q97_4, q97_7, q97_8, q97_9, q97_10, q97_11, q97_14, q97_15, q97_16, q97_17, t78, zB_t c1, z10, if_false, e1, e2, true_and, hS1.2.2.2 k hk1]
    refine zT_mono (s90 hS1 hK (fun j hj => hK.2.2 k hk1 j hj) hb) ?_
    rintro r2 M2 ⟨g2, b2⟩
    simp only [q97_20, q97_21, q97_24]
    exact ⟨by rw [b2.1]; rfl, zJ_look h b1' (zHR_of b2)⟩
  · simp only [q66_0, q66_1, q66_4, q66_7, q66_8, q66_11, q66_12, q66_13, q66_16, q66_19, q66_20, H6, t71, zB_f c1, z00, if_true, q97_0, q97_1, q97_4, q97_7, q97_8, t78]
    exact ⟨True.intro, rfl, _, _, _, _, _, _, h⟩
end ZA
