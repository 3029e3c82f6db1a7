/-! the model's start, by its number -/
theorem zSx_chain {F v k : Nat} (hF : F ≠ 4) : ∀ d r : Nat, zSx F v k d r = (zRx F k d r).map (fun r => ((k, fun j => nI (zDg k r j), zLk F k, zHv v k) : zS))
  | 0, _ => rfl
  | d + 1, r => by
    unfold zSx zRx zStart
    rw [if_neg hF]
    by_cases h : zVal F k r = true
    · rw [if_pos h, if_pos h]
      simp only [List.map_cons, zSx_chain hF d (r + 1)]
    · rw [if_neg h, if_neg h]
      exact zSx_chain hF d (r + 1)
theorem zSx_tree {v k : Nat} : ∀ d r : Nat, zSx 4 v k d r = (zTx k d r).map (fun l => ((k, fun _ => nI 0, zLf l, zHv v k) : zS))
  | 0, _ => rfl
  | d + 1, r => by
    unfold zSx zTx zStart
    rw [if_pos rfl]
    cases h : zTrc k r with
    | none => exact zSx_tree d (r + 1)
    | some l => simp only [Option.map_some, List.map_cons, zSx_tree d (r + 1)]
section ZA
variable {L : Nat} {M : za_M} {Q : Int32 → za_M → Prop}
theorem s101_nodes {F n : Nat} (hF : F ≤ 5) (hn : n ≤ 5) {ks : Nat → Int32} {vs : Nat → Option Nat} {l1 l4 l5 : Value} : ∀ (d k : Nat), d + k = n → ∀ (M : za_M) (l7 : Value), zMo M (k, ks, fun _ => none, vs) → (∀ j, j < n → (if F = 4 then nI 0 else M 38 j) = ks j) → (∀ (M' : za_M) (l7 : Value), zMo M' (n, ks, fun _ => none, vs) → (∀ f, f ≠ 0 → M' 26 f = M 26 f) → (∀ c, c ≠ 26 → c ≠ 27 → c ≠ 28 → M' c = M c) → zT L 101 80 [.ref 26, l1, .int (nI F), .int (nI n), l4, l5, .int (nI n), l7] [] M' Q) →
    zT L 101 46 [.ref 26, l1, .int (nI F), .int (nI n), l4, l5, .int (nI k), l7] [] M Q := by
  intro d
  induction d with
  | zero =>
    intro k hk M l7 hS hks kk
    have hk : k = n := by omega
    subst hk
    rw [q101_46, q101_48, q101_49, if_pos (Int32.le_refl _)]
    exact kk M l7 hS (fun _ _ => rfl) (fun _ _ _ _ => rfl)
  | succ d ih =>
    intro k hk M l7 hS hks kk
    have e1 : ¬ nI n ≤ nI k := nI_ge (by omega) (by omega)
    have e4 : nI F = nI 4 ↔ F = 4 := nI_eq (by omega) (by omega)
    have hkk := hks k (by omega)
    have go : zT L 101 69 [.ref 26, l1, .int (nI F), .int (nI n), l4, l5, .int (nI k), l7] [.int (ks k), .ref 26] M Q := by
      rw [q101_69, s83 hS.1 (show k < 24 by omega)]
      simp only [q101_72, q101_74, q101_77, nI_add]
      have hA := zM_add (key := ks k) hS
      refine ih (k + 1) (by omega) _ _ (zV_ext hA rfl (fun j hj => ?_) (fun j hj => ?_) (fun _ _ => rfl)) (fun j hj => by rw [zAddM_ne (by decide) (by decide) (by decide)]; exact hks j hj) (fun M' l7' a b c => kk M' l7' a (fun f hf => by rw [b f hf, zAddM_f hf]) (fun x x1 x2 x3 => by rw [c x x1 x2 x3, zAddM_ne x1 x2 x3]))
      · show ks j = if j = k then ks k else ks j
        split
        · rename_i q; rw [q]
        · rfl
      · show none = if j = 2 * k ∨ j = 2 * k + 1 then none else none
        split <;> rfl
    rw [q101_46, q101_48, q101_49, if_neg e1, q101_52, q101_53, q101_54, q101_55]
    by_cases hF4 : F = 4
    · rw [if_pos hF4] at hkk
      rw [if_pos (e4.mpr hF4), q101_58, q101_59, hkk]
      exact go
    · rw [if_neg hF4] at hkk
      have g1 : za_in L 38 false (nI k) := za_in_of (n := 5) rfl (by omega) (by omega)
      have g2 : (nI k).toNatClampNeg = k := nI_clamp (by omega)
      rw [if_neg (fun q => hF4 (e4.mp q))]
      simp only [q101_62, q101_63, q101_66, q101_68, g1, g2, true_and, hkk]
      exact go
theorem s101_links {F n i : Nat} (hF : F ≤ 5) (hn : n ≤ 5) (hi : i ≤ 42 ∨ F ≠ 4) {ks : Nat → Int32} {lkT vs : Nat → Option Nat} (hc : F ≠ 4 → ∀ j, j < 2 * n → lkT j = zLk F n j) {l1 l5 l7 : Value} : ∀ (d k : Nat), d + k = n → ∀ (M : za_M), zMo M (n, ks, fun j => if j < 2 * k then lkT j else none, vs) → (F = 4 → ∀ j, j < 2 * n → M 36 (10 * i + j) = zE (lkT j)) → (∀ (M' : za_M), zMo M' (n, ks, lkT, vs) → (∀ c, c ≠ 27 → M' c = M c) → zT L 101 220 [.ref 26, l1, .int (nI F), .int (nI n), .int (nI i), l5, .int (nI n), l7] [] M' Q) →
    zT L 101 83 [.ref 26, l1, .int (nI F), .int (nI n), .int (nI i), l5, .int (nI k), l7] [] M Q := by
  intro d
  induction d with
  | zero =>
    intro k hk M hS hT kk
    have hk : k = n := by omega
    subst hk
    rw [q101_83, q101_85, q101_86, if_pos (Int32.le_refl _)]
    refine kk M (zV_ext hS rfl (fun _ _ => rfl) (fun j hj => ?_) (fun _ _ => rfl)) (fun _ _ => rfl)
    show lkT j = if j < 2 * k then lkT j else none
    rw [if_pos hj]
  | succ d ih =>
    intro k hk M hS hT kk
    have e1 : ¬ nI n ≤ nI k := nI_ge (by omega) (by omega)
    have e4 : nI F = nI 4 ↔ F = 4 := nI_eq (by omega) (by omega)
    have e3 : nI F = nI 3 ↔ F = 3 := nI_eq (by omega) (by omega)
    have e2 : nI F = nI 2 ↔ F = 2 := nI_eq (by omega) (by omega)
    have g1 : za_in L 27 false (nI (2 * k)) := za_in_of (n := 48) rfl (by omega) (by omega)
    have g2 : (nI (2 * k)).toNatClampNeg = 2 * k := nI_clamp (by omega)
    have g3 : za_in L 27 false (nI (2 * k + 1)) := za_in_of (n := 48) rfl (by omega) (by omega)
    have g4 : (nI (2 * k + 1)).toNatClampNeg = 2 * k + 1 := nI_clamp (by omega)
    have fin : zT L 101 214 [.ref 26, l1, .int (nI F), .int (nI n), .int (nI i), l5, .int (nI k), l7] [] (za_up (za_up M 27 (2 * k) (zE (lkT (2 * k)))) 27 (2 * k + 1) (zE (lkT (2 * k + 1)))) Q := by
      simp only [q101_214, q101_217, nI_add]
      have hB := zV_link zAp_M (zV_link zAp_M hS (2 * k) (lkT (2 * k))) (2 * k + 1) (lkT (2 * k + 1))
      refine ih (k + 1) (by omega) _ (zV_ext hB rfl (fun _ _ => rfl) (fun j hj => ?_) (fun _ _ => rfl)) (fun q j hj => by rw [za_up_oc (by decide), za_up_oc (by decide)]; exact hT q j hj) (fun M' a b => kk M' a (fun c hc => by rw [b c hc, za_up_ne hc, za_up_ne hc]))
      show (if j < 2 * (k + 1) then lkT j else none) = if j = 2 * k + 1 then lkT (2 * k + 1) else if j = 2 * k then lkT (2 * k) else if j < 2 * k then lkT j else none
      by_cases q1 : j = 2 * k + 1
      · rw [if_pos q1, if_pos (by omega), q1]
      · rw [if_neg q1]
        by_cases q2 : j = 2 * k
        · rw [if_pos q2, if_pos (by omega), q2]
        · rw [if_neg q2]
          by_cases q3 : j < 2 * k
          · rw [if_pos q3, if_pos (by omega)]
          · rw [if_neg q3, if_neg (by omega)]
    rw [q101_83, q101_85, q101_86, if_neg e1, q101_89, q101_90, q101_91]
    by_cases hF4 : F = 4
    · have hi : i ≤ 42 := by
        rcases hi with q | q
        · exact q
        · exact absurd hF4 q
      have t1 := hT hF4 (2 * k) (by omega)
      have t2 := hT hF4 (2 * k + 1) (by omega)
      rw [show 10 * i + (2 * k + 1) = 10 * i + 2 * k + 1 by omega] at t2
      have h1 : za_in L 36 false (nI (10 * i + 2 * k)) := za_in_of (n := 500) rfl (by omega) (by omega)
      have h2 : (nI (10 * i + 2 * k)).toNatClampNeg = 10 * i + 2 * k := nI_clamp (by omega)
      have h3 : za_in L 36 false (nI (10 * i + 2 * k + 1)) := za_in_of (n := 500) rfl (by omega) (by omega)
      have h4 : (nI (10 * i + 2 * k + 1)).toNatClampNeg = 10 * i + 2 * k + 1 := nI_clamp (by omega)
      have t2' : za_up M 27 (2 * k) (zE (lkT (2 * k))) 36 (10 * i + 2 * k + 1) = zE (lkT (2 * k + 1)) := by rw [za_up_oc (by decide)]; exact t2
      rw [if_pos (e4.mpr hF4)]
      simp only [q101_94, q101_95, q101_98, q101_99, q101_101, q101_102, q101_103, q101_106, q101_108, q101_110, q101_111, q101_112, q101_114, q101_115, q101_116, q101_117, q101_118, q101_119, q101_122, q101_123, q101_125, q101_126, q101_127, q101_128, q101_129, q101_132, q101_134, q101_136, q101_137, q101_138, q101_140, q101_141, q101_142, q101_143, q101_144, q101_145, q101_146, pk_mul, nI_add, g1, g2, g3, g4, h1, h2, h3, h4, t1, t2', true_and, Nat.reduceLT]
      exact fin
    · have c1 := hc hF4 (2 * k) (by omega)
      have c2 := hc hF4 (2 * k + 1) (by omega)
      have step2 : ∀ M1 : za_M, M1 = za_up M 27 (2 * k) (zE (lkT (2 * k))) → zT L 101 184 [.ref 26, l1, .int (nI F), .int (nI n), .int (nI i), l5, .int (nI k), l7] [] M1 Q := by
        intro M1 hM1
        simp only [q101_184, q101_185, q101_188, q101_189, q101_191, q101_192, q101_193, q101_194, q101_195, pk_mul, nI_add]
        have last : zT L 101 213 [.ref 26, l1, .int (nI F), .int (nI n), .int (nI i), l5, .int (nI k), l7] [.int (zE (lkT (2 * k + 1))), .int (nI (2 * k + 1)), .ref 27] M1 Q := by
          rw [q101_213, g4, hM1]
          exact ⟨g3, by decide, fin⟩
        rw [q101_196]
        by_cases hF2 : F = 2
        · rw [if_pos (e2.mpr hF2), q101_199, q101_201]
          by_cases hk0 : k = 0
          · have hv : zE (lkT (2 * k + 1)) = zN := by
              rw [c2]; unfold zLk
              rw [if_neg (by omega), if_neg (by omega)]; rfl
            rw [if_pos (show nI k ≤ 0 by rw [hk0]; decide), q101_211, ← hv]
            exact last
          · have hv : zE (lkT (2 * k + 1)) = nI (k - 1) := by
              rw [c2]; unfold zLk
              rw [if_neg (by omega), if_pos ⟨hF2, by omega⟩, show (2 * k + 1) / 2 - 1 = k - 1 by omega]; rfl
            have hm : nI k - nI 1 = nI (k - 1) := pk_sub (by omega)
            rw [if_neg (nI_nle (by omega) (by omega))]
            simp only [q101_204, q101_206, q101_207, q101_208, hm]
            rw [← hv]
            exact last
        · have hv : zE (lkT (2 * k + 1)) = zN := by
            rw [c2]; unfold zLk
            rw [if_neg (by omega), if_neg (fun q => hF2 q.1)]; rfl
          rw [if_neg (fun q => hF2 (e2.mp q)), q101_211, ← hv]
          exact last
      rw [if_neg (fun q => hF4 (e4.mp q))]
      simp only [q101_149, q101_150, q101_153, q101_154, q101_156, q101_157, q101_159, q101_160, q101_161, pk_mul, nI_add]
      have mid : zT L 101 183 [.ref 26, l1, .int (nI F), .int (nI n), .int (nI i), l5, .int (nI k), l7] [.int (zE (lkT (2 * k))), .int (nI (2 * k)), .ref 27] M Q := by
        rw [q101_183, g2]
        exact ⟨g1, by decide, step2 _ rfl⟩
      rw [q101_162]
      by_cases hlt : k + 1 < n
      · have hv : zE (lkT (2 * k)) = nI (k + 1) := by
          rw [c1]; unfold zLk
          rw [if_pos (by omega), if_pos (by omega), show 2 * k / 2 + 1 = k + 1 by omega]; rfl
        rw [if_neg (nI_ge hlt (by omega))]
        simp only [q101_165, q101_167, q101_168, q101_169, nI_add]
        rw [← hv]
        exact mid
      · rw [if_pos (nI_le (show n ≤ k + 1 by omega) (by omega)), q101_172, q101_173, q101_174]
        by_cases hF3 : F = 3
        · have hv : zE (lkT (2 * k)) = nI 0 := by
            rw [c1]; unfold zLk
            rw [if_pos (by omega), if_neg (by omega), if_pos hF3]; rfl
          rw [if_pos (e3.mpr hF3), q101_177, q101_178, ← hv]
          exact mid
        · have hv : zE (lkT (2 * k)) = zN := by
            rw [c1]; unfold zLk
            rw [if_pos (by omega), if_neg (by omega), if_neg hF3]; rfl
          rw [if_neg (fun q => hF3 (e3.mp q)), q101_181, ← hv]
          exact mid
/-- what a call of starts leaves -/
def zSt (F n : Nat) (M M' : za_M) (r : Int32) (o : Option zS) : Prop := match o with
  | none => r = nI 0 ∧ ∀ c, c ≠ 38 → M' c = M c
  | some S => r = nI 1 ∧ zMo M' S ∧ S.1 = n ∧ (∀ j, j < n → (if F = 4 then nI 0 else M' 38 j) = S.2.1 j) ∧ (∀ f, f ≠ 0 → M' 26 f = M 26 f) ∧ ∀ c, c ≠ 26 → c ≠ 27 → c ≠ 28 → c ≠ 29 → c ≠ 38 → M' c = M c
theorem s101_body {F v n i : Nat} (hv : v < 8) (hF : F ≤ 5) (hn : n ≤ 5) (hi : i ≤ 42 ∨ F ≠ 4) {M0 : za_M} {ks : Nat → Int32} {lkT : Nat → Option Nat} (hc : F ≠ 4 → ∀ j, j < 2 * n → lkT j = zLk F n j) (hks : ∀ j, j < n → (if F = 4 then nI 0 else M 38 j) = ks j) (hT : F = 4 → ∀ j, j < 2 * n → M 36 (10 * i + j) = zE (lkT j)) (hM : ∀ c, c ≠ 38 → M c = M0 c) : zT L 101 37 [.ref 26, .int (nI v), .int (nI F), .int (nI n), .int (nI i), .null, .null, .null] [] M (fun r M' => zSt F n M0 M' r (some (n, ks, lkT, zHv v n))) := by
  simp only [q101_37, q101_38]
  refine zT_mono s82 ?_
  rintro r1 M1 ⟨-, b1, c1, d1, e1⟩
  simp only [q101_41, q101_43, q101_44]
  have hD : zMo M1 (0, ks, fun _ => none, fun _ => none) := ⟨b1, fun j hj => absurd hj (Nat.not_lt_zero j), fun j hj => absurd hj (by show ¬ j < 2 * 0; omega), fun w hw => c1 w hw⟩
  refine s101_nodes hF hn n 0 rfl M1 _ hD (fun j hj => by rw [e1 38 (by decide) (by decide)]; exact hks j hj) (fun M2 l7 a2 b2 c2 => ?_)
  simp only [q101_80, q101_81]
  refine s101_links hF hn hi hc n 0 rfl M2 (zV_ext a2 rfl (fun _ _ => rfl) (fun j hj => ?_) (fun _ _ => rfl)) (fun q j hj => by rw [c2 36 (by decide) (by decide) (by decide), e1 36 (by decide) (by decide)]; exact hT q j hj) (fun M3 a3 b3 => ?_)
  · show (if j < 2 * 0 then lkT j else none) = none
    rw [if_neg (by omega)]
  have g1 : za_in L 29 false (nI v) := za_in_of (n := 8) rfl hv (by omega)
  have g2 : (nI v).toNatClampNeg = v := nI_clamp (by omega)
  have key : zT L 101 235 [.ref 26, .int (nI v), .int (nI F), .int (nI n), .int (nI i), .int r1, .int (nI n), l7] [.int (zE (if 0 < n then some 0 else none)), .int (nI v), .ref 29] M3 (fun r M' => zSt F n M0 M' r (some (n, ks, lkT, zHv v n))) := by
    rw [q101_235, g2]
    refine ⟨g1, by decide, ?_⟩
    simp only [q101_236, q101_237, zb1]
    have hH := zV_hold zAp_M a3 v (if 0 < n then some 0 else none)
    refine ⟨rfl, zV_ext hH rfl (fun _ _ => rfl) (fun _ _ => rfl) (fun _ _ => rfl), rfl, fun j hj => ?_, fun f hf => ?_, fun c x1 x2 x3 x4 x5 => ?_⟩
    · rw [za_up_oc (by decide), b3 38 (by decide), c2 38 (by decide) (by decide) (by decide), e1 38 (by decide) (by decide)]
      exact hks j hj
    · rw [za_up_oc (by decide), b3 26 (by decide), b2 f hf, d1 f hf, hM 26 (by decide)]
    · rw [za_up_ne x4, b3 c x2, c2 c x1 x2 x3, e1 c x1 x4, hM c x5]
  simp only [q101_220, q101_221, q101_224, q101_225]
  rw [q101_226]
  by_cases hn0 : n = 0
  · rw [if_neg (by omega)] at key
    rw [if_pos (show nI n ≤ 0 by rw [hn0]; decide), q101_233]
    exact key
  · rw [if_pos (by omega)] at key
    rw [if_neg (nI_nle (by omega) (by omega)), q101_229, q101_230]
    exact key
theorem s101 {F v n i : Nat} (hv : v < 8) (hF : 1 ≤ F ∧ F ≤ 5) (hn : n ≤ 5) (hi : i < 1000) (hT : F = 4 → 1 ≤ n → M 26 16 = nI (zTl n).length ∧ zTA n M (zTl n)) : zT L 101 0 [.ref 26, .int (nI v), .int (nI F), .int (nI n), .int (nI i), .null, .null, .null] [] M (fun r M' => zSt F n M M' r (zSx F v n ((if F = 4 then 4 else 3) ^ n) 0)[i]?) := by
  have e4 : nI F = nI 4 ↔ F = 4 := nI_eq (by omega) (by omega)
  rw [q101_0, q101_1, q101_2]
  by_cases hF4 : F = 4
  · subst hF4
    rw [if_pos (e4.mpr rfl), if_pos rfl, zSx_tree, List.getElem?_map]
    have hlist : zTx n (4 ^ n) 0 = zTl n := rfl
    rw [hlist]
    have hcnt : ∃ m, m = (zTl n).length ∧ m ≤ 42 ∧ (zT L 101 5 [.ref 26, .int (nI v), .int (nI 4), .int (nI n), .int (nI i), .null, .null, .null] [] M (fun r M' => zSt 4 n M M' r (((zTl n)[i]?).map (fun l => ((n, fun _ => nI 0, zLf l, zHv v n) : zS)))) ↔ zT L 101 19 [.ref 26, .int (nI v), .int (nI 4), .int (nI n), .int (nI i), .null, .null, .null] [.int (nI m), .int (nI i)] M (fun r M' => zSt 4 n M M' r (((zTl n)[i]?).map (fun l => ((n, fun _ => nI 0, zLf l, zHv v n) : zS))))) := by
      by_cases hn0 : n = 0
      · subst hn0
        refine ⟨1, by decide, by omega, ?_⟩
        simp only [q101_5, q101_7, q101_8, q101_11, q101_12, q101_15, q101_16, z00, if_true]
      · have h1 := (hT rfl (by omega)).1
        refine ⟨(zTl n).length, rfl, (zMk_ok (by omega) hn).2, ?_⟩
        have e0 : ¬ nI n = 0 := nI_ne0 (by omega) (by omega)
        simp only [q101_5, q101_7, q101_8, q101_11, q101_12, q101_15, q101_16, e0, if_false, h1]
    obtain ⟨m, hm, hm42, hiff⟩ := hcnt
    rw [hiff, q101_19]
    by_cases hlt : i < m
    · rw [if_pos (nI_lt hlt (by omega))]
      have hl : (zTl n)[i]? = some (zTl n)[i] := List.getElem?_eq_getElem (by omega)
      rw [hl]
      refine s101_body hv (by omega) hn (Or.inl (by omega)) (fun q => absurd rfl q) (fun j hj => if_pos rfl) (fun _ j hj => ?_) (fun _ _ => rfl)
      exact (hT rfl (by omega)).2 i _ hl j hj
    · rw [if_neg (nI_nlt (by omega) (by omega)), List.getElem?_eq_none (by omega)]
      simp only [q101_22, q101_23, zb0]
      exact ⟨rfl, fun _ _ => rfl⟩
  · rw [if_neg (fun q => hF4 (e4.mp q)), if_neg hF4, zSx_chain hF4, List.getElem?_map]
    simp only [q101_24, q101_25, q101_26, q101_27, q101_29]
    refine zT_mono (s102 hF.2 hn hi) ?_
    rintro r1 M1 ⟨a1, b1⟩
    rw [q101_32]
    cases hr : (zRx F n (3 ^ n) 0)[i]? with
    | none =>
      rw [hr] at a1
      have a1 : r1 = nI 0 := a1
      rw [a1, if_pos (by decide)]
      simp only [q101_35, q101_36, zb0]
      exact ⟨rfl, b1⟩
    | some r =>
      rw [hr] at a1
      obtain ⟨a1, a2⟩ := a1
      rw [a1, if_neg (by decide)]
      exact s101_body hv hF.2 hn (Or.inr hF4) (fun _ j hj => rfl) (fun j hj => by rw [if_neg hF4]; exact a2 j hj) (fun q => absurd q hF4) b1
end ZA
