/-! the model's trees: made in another order, put in order one by one; decided: the class's order -/
def zDb (b i : Nat) : Nat := 2 * (b / 2 ^ (2 * i) % 2) + b / 2 ^ (2 * i + 1) % 2
def zAh (la lb : Nat → Option Nat) : Nat → Nat → Bool
  | 0, _ => false
  | d + 1, k => if (la k).isSome = (lb k).isSome then zAh la lb d (k + 1) else (lb k).isSome
def zBub (n : Nat) (l : List (Option Nat)) : List (List (Option Nat)) → List (List (Option Nat)) → List (List (Option Nat))
  | [], B => l :: B
  | x :: R, B => if zAh (zLf l) (zLf x) (2 * n) 0 = true then zBub n l R (x :: B) else (x :: R).reverse ++ l :: B
def zMk (n : Nat) : Nat → Nat → List (List (Option Nat)) → List (List (Option Nat))
  | 0, _, T => T
  | d + 1, b, T => match zTd (zDb b) n 0 [] [] with
    | none => zMk n d (b + 1) T
    | some l => zMk n d (b + 1) (zBub n l T.reverse [])
def zTx (n : Nat) : Nat → Nat → List (List (Option Nat))
  | 0, _ => []
  | d + 1, r => match zTrc n r with
    | none => zTx n d (r + 1)
    | some l => l :: zTx n d (r + 1)
def zTl (n : Nat) : List (List (Option Nat)) := zTx n (4 ^ n) 0
set_option maxRecDepth 100000 in
theorem zMk_1 : zMk 1 4 0 [] = zTl 1 ∧ (zTl 1).length ≤ 42 := by decide +kernel
set_option maxRecDepth 100000 in
theorem zMk_2 : zMk 2 16 0 [] = zTl 2 ∧ (zTl 2).length ≤ 42 := by decide +kernel
set_option maxRecDepth 100000 in
theorem zMk_3 : zMk 3 64 0 [] = zTl 3 ∧ (zTl 3).length ≤ 42 := by decide +kernel
set_option maxRecDepth 100000 in
theorem zMk_4 : zMk 4 256 0 [] = zTl 4 ∧ (zTl 4).length ≤ 42 := by decide +kernel
set_option maxRecDepth 100000 in
theorem zMk_5 : zMk 5 1024 0 [] = zTl 5 ∧ (zTl 5).length ≤ 42 := by decide +kernel
theorem zMk_ok {n : Nat} (h1 : 1 ≤ n) (h5 : n ≤ 5) : zMk n (4 ^ n) 0 [] = zTl n ∧ (zTl n).length ≤ 42 := by
  have : n = 1 ∨ n = 2 ∨ n = 3 ∨ n = 4 ∨ n = 5 := by omega
  rcases this with rfl | rfl | rfl | rfl | rfl
  · exact zMk_1
  · exact zMk_2
  · exact zMk_3
  · exact zMk_4
  · exact zMk_5
theorem zBub_len {n : Nat} {l : List (Option Nat)} : ∀ (R B : List (List (Option Nat))), (zBub n l R B).length = R.length + B.length + 1
  | [], B => by simp [zBub]
  | x :: R, B => by
    unfold zBub
    split
    · rw [zBub_len R (x :: B)]; simp; omega
    · simp; omega
theorem zMk_len {n : Nat} : ∀ (d b : Nat) (T : List (List (Option Nat))), T.length ≤ (zMk n d b T).length
  | 0, _, T => Nat.le_refl _
  | d + 1, b, T => by
    unfold zMk
    split
    · exact zMk_len d (b + 1) T
    · rename_i l _
      have := zMk_len (n := n) d (b + 1) (zBub n l T.reverse [])
      rw [zBub_len] at this
      simp at this
      omega
/-- the trees in memory -/
def zTA (n : Nat) (M : za_M) (T : List (List (Option Nat))) : Prop := ∀ i l, T[i]? = some l → ∀ j, j < 2 * n → M 36 (10 * i + j) = zE (zLf l j)
section ZA
variable {L : Nat} {M : za_M} {Q : Int32 → za_M → Prop}
theorem zShr {r d : Nat} (hr : r < 2 ^ 31) (hd : d < 10) : nI r >>> (nI d &&& 31) = nI (r / 2 ^ d) := by
  refine pk_shrN hr _ d ?_
  have : d = 0 ∨ d = 1 ∨ d = 2 ∨ d = 3 ∨ d = 4 ∨ d = 5 ∨ d = 6 ∨ d = 7 ∨ d = 8 ∨ d = 9 := by omega
  rcases this with rfl | rfl | rfl | rfl | rfl | rfl | rfl | rfl | rfl | rfl <;> decide
theorem zAnd1 {x : Nat} (hx : x < 2 ^ 31) : nI x &&& nI 1 = nI (x % 2) := pk_andN (by omega) 1 (by decide)
def zWt (i : Nat) (M : za_M) (many : Nat) (st : List Nat) : Prop := (i = 0 ∧ many = 1 ∧ M 37 0 = zN ∧ st = []) ∨ (0 < i ∧ many = st.length ∧ zSk M 37 st)
theorem zBit {b i : Nat} {dg : Nat} (h : dg = zDb b i) : (dg / 2 % 2 = 1 ↔ b / 2 ^ (2 * i) % 2 = 1) ∧ (dg % 2 = 1 ↔ b / 2 ^ (2 * i + 1) % 2 = 1) := by
  subst h
  unfold zDb
  have h1 : b / 2 ^ (2 * i) % 2 < 2 := Nat.mod_lt _ (by decide)
  have h2 : b / 2 ^ (2 * i + 1) % 2 < 2 := Nat.mod_lt _ (by decide)
  generalize b / 2 ^ (2 * i) % 2 = x at h1
  generalize b / 2 ^ (2 * i + 1) % 2 = y at h2
  omega
set_option maxHeartbeats 2000000 in
theorem s98_loop {n b a : Nat} (hn : n ≤ 5) (hb : b < 1024) (ha : a ≤ 490) : ∀ (d i : Nat), d + i = n → ∀ (many : Nat) (st : List Nat) (lk : List (Option Nat)) (M : za_M), zWt i M many st → st.length ≤ i + 1 → (∀ p ∈ st, p < 2 * i) → lk.length = 2 * i → (∀ j, j < 2 * i → M 36 (a + j) = zE (zLf lk j)) →
    zT L 98 18 [.ref 26, .int (nI n), .int (nI b), .int (nI a), .ref 37, .int (nI many), .int (nI i)] [] M (fun r M' => r = zB ((zTd (zDb b) d i st lk).isSome = true ∧ (n = 0 → False)) ∧ (∀ l, zTd (zDb b) d i st lk = some l → ∀ j, j < 2 * n → M' 36 (a + j) = zE (zLf l j)) ∧ (∀ j, j < a → M' 36 j = M 36 j) ∧ ∀ c, c ≠ 36 → c ≠ 37 → M' c = M c) := by
  intro d
  induction d with
  | zero =>
    intro i hd many st lk M hW hsl hpl hl hM
    have hin : i = n := by omega
    subst hin
    rw [q98_18, q98_20, q98_21, if_pos (Int32.le_refl _)]
    rw [q98_144, q98_146]
    by_cases hst : st = []
    · subst hst
      have hz : zTd (zDb b) 0 i [] lk = some lk := by unfold zTd; exact if_pos rfl
      rw [hz]
      rcases hW with ⟨w1, w2, w3, w4⟩ | ⟨w1, w2, w3⟩
      · rw [w2, if_neg (by decide)]
        simp only [q98_153, q98_154, zb0]
        exact ⟨(zB_f (fun q => q.2 w1)).symm, fun l hl' => (by cases hl'; exact hM), fun _ _ => True.intro, fun _ _ _ => True.intro⟩
      · rw [w2, List.length_nil, if_pos (by decide)]
        simp only [q98_149, q98_150, q98_153, q98_154, zb1]
        exact ⟨(zB_t ⟨rfl, fun q => by omega⟩).symm, fun l hl' => (by cases hl'; exact hM), fun _ _ => True.intro, fun _ _ _ => True.intro⟩
    · have hz : zTd (zDb b) 0 i st lk = none := by unfold zTd; exact if_neg hst
      have hpos : 0 < st.length := by
        cases st with
        | nil => exact absurd rfl hst
        | cons x y => simp
      rcases hW with ⟨w1, w2, w3, w4⟩ | ⟨w1, w2, w3⟩
      · exact absurd w4 hst
      · rw [w2, hz, if_neg (nI_ne0 hpos (by omega))]
        simp only [q98_153, q98_154, zb0]
        exact ⟨(zB_f (by simp)).symm, fun l hl' => (by cases hl'), fun _ _ => True.intro, fun _ _ _ => True.intro⟩
  | succ d ih =>
    intro i hd many st lk M hW hsl hpl hl hM
    have hin : i < n := by omega
    have e1 : ¬ nI n ≤ nI i := nI_ge hin (by omega)
    have hdg : zDb b i < 4 := by
      unfold zDb
      have h1 : b / 2 ^ (2 * i) % 2 < 2 := Nat.mod_lt _ (by decide)
      have h2 : b / 2 ^ (2 * i + 1) % 2 < 2 := Nat.mod_lt _ (by decide)
      omega
    obtain ⟨B0, B1⟩ := zBit (b := b) (i := i) rfl
    rw [q98_18, q98_20, q98_21, if_neg e1, q98_24, q98_26]
    -- behind the popped place
    have rest : ∀ (st' : List Nat) (lk' : List (Option Nat)) (M1 : za_M), zSk M1 37 st' → st'.length ≤ i → (∀ p ∈ st', p < 2 * i) → lk'.length = 2 * i → (∀ j, j < 2 * i → M1 36 (a + j) = zE (zLf lk' j)) → zTd (zDb b) (d + 1) i st lk = zTd (zDb b) d (i + 1) (zPush i (zDb b i) st') (lk' ++ [none, none]) → (∀ j, j < a → M1 36 j = M 36 j) → (∀ c, c ≠ 36 → c ≠ 37 → M1 c = M c) →
        zT L 98 58 [.ref 26, .int (nI n), .int (nI b), .int (nI a), .ref 37, .int (nI st'.length), .int (nI i)] [] M1 (fun r M' => r = zB ((zTd (zDb b) (d + 1) i st lk).isSome = true ∧ (n = 0 → False)) ∧ (∀ l, zTd (zDb b) (d + 1) i st lk = some l → ∀ j, j < 2 * n → M' 36 (a + j) = zE (zLf l j)) ∧ (∀ j, j < a → M' 36 j = M 36 j) ∧ ∀ c, c ≠ 36 → c ≠ 37 → M' c = M c) := by
      intro st' lk' M1 hs1 hsl1 hpl1 hl1 hM1 hz hfa hfc
      rw [hz]
      have g1 : za_in L 36 false (nI (a + 2 * i)) := za_in_of (n := 500) rfl (by omega) (by omega)
      have g2 : (nI (a + 2 * i)).toNatClampNeg = a + 2 * i := nI_clamp (by omega)
      have g3 : za_in L 36 false (nI (a + 2 * i + 1)) := za_in_of (n := 500) rfl (by omega) (by omega)
      have g4 : (nI (a + 2 * i + 1)).toNatClampNeg = a + 2 * i + 1 := nI_clamp (by omega)
      have g5 := zShr (r := b) (d := 2 * i + 1) (by omega) (by omega)
      have g6 := zShr (r := b) (d := 2 * i) (by omega) (by omega)
      have g7 := zAnd1 (x := b / 2 ^ (2 * i + 1)) (by have := Nat.div_le_self b (2 ^ (2 * i + 1)); omega)
      have g8 := zAnd1 (x := b / 2 ^ (2 * i)) (by have := Nat.div_le_self b (2 ^ (2 * i)); omega)
      have m2 : ∀ x, nI (x % 2) = nI 1 ↔ x % 2 = 1 := fun x => by
        have := Nat.mod_lt x (show 0 < 2 by decide)
        exact nI_eq (by omega) (by omega)
      have h1 : za_in L 37 false (nI st'.length) := za_in_of (n := 12) rfl (by omega) (by omega)
      have h2 : (nI st'.length).toNatClampNeg = st'.length := nI_clamp (by omega)
      have h3 : za_in L 37 false (nI (st'.length + 1)) := za_in_of (n := 12) rfl (by omega) (by omega)
      have h4 : (nI (st'.length + 1)).toNatClampNeg = st'.length + 1 := nI_clamp (by omega)
      simp only [q98_58, q98_59, q98_62, q98_63, q98_64, q98_66, q98_67, q98_68, q98_70, q98_71, q98_72, q98_75, q98_76, q98_77, q98_79, q98_80, q98_81, q98_82, q98_83, q98_85, pk_mul, nI_add, g1, g2, g3, g4, true_and, Nat.reduceLT]
      generalize hN : za_up (za_up M1 36 (a + 2 * i) zN) 36 (a + 2 * i + 1) zN = N
      have hN36 : ∀ j, j < 2 * (i + 1) → N 36 (a + j) = zE (zLf (lk' ++ [none, none]) j) := by
        intro j hj
        rw [zLf_app, ← hN]
        by_cases q : j < lk'.length
        · rw [if_pos q, za_up_oi (by omega), za_up_oi (by omega)]
          exact hM1 j (by omega)
        · rw [if_neg q]
          by_cases q2 : j = 2 * i + 1
          · subst q2
            rw [show a + (2 * i + 1) = a + 2 * i + 1 by omega, za_up_same]; rfl
          · rw [za_up_oi (by omega), show j = 2 * i by omega, za_up_same]; rfl
      have hNa : ∀ j, j < a → N 36 j = M 36 j := fun j hj => by rw [← hN, za_up_oi (by omega), za_up_oi (by omega), hfa j hj]
      have hNc : ∀ c, c ≠ 36 → N c = M1 c := fun c hc => by rw [← hN, za_up_ne hc, za_up_ne hc]
      have hNs : zSk N 37 st' := zSk_cg hs1 (hNc 37 (by decide))
      have fin : ∀ (M2 : za_M), zSk M2 37 (zPush i (zDb b i) st') → (∀ c, c ≠ 37 → M2 c = N c) → zT L 98 138 [.ref 26, .int (nI n), .int (nI b), .int (nI a), .ref 37, .int (nI (zPush i (zDb b i) st').length), .int (nI i)] [] M2 (fun r M' => r = zB ((zTd (zDb b) d (i + 1) (zPush i (zDb b i) st') (lk' ++ [none, none])).isSome = true ∧ (n = 0 → False)) ∧ (∀ l, zTd (zDb b) d (i + 1) (zPush i (zDb b i) st') (lk' ++ [none, none]) = some l → ∀ j, j < 2 * n → M' 36 (a + j) = zE (zLf l j)) ∧ (∀ j, j < a → M' 36 j = M 36 j) ∧ ∀ c, c ≠ 36 → c ≠ 37 → M' c = M c) := by
        intro M2 hs2 hc2
        have hp2 := zPush_len (i := i) (dg := zDb b i) (st := st')
        simp only [q98_138, q98_141, nI_add]
        refine zT_mono (ih (i + 1) (by omega) _ _ (lk' ++ [none, none]) M2 (Or.inr ⟨by omega, rfl, hs2⟩) (by omega) (zPush_lt (by omega) (fun p hp => by have := hpl1 p hp; omega)) (by simp [hl1]; omega) (fun j hj => by rw [hc2 36 (by decide)]; exact hN36 j hj)) ?_
        rintro r3 M3 ⟨x1, x2, x3, x4⟩
        exact ⟨x1, x2, fun j hj => by rw [x3 j hj, hc2 36 (by decide), hNa j hj], fun c c1 c2 => by rw [x4 c c1 c2, hc2 c c2, hNc c c1, hfc c c1 c2]⟩
      simp only [q98_86, q98_87, q98_88, q98_90, q98_91, q98_92, q98_93, q98_94, q98_95, q98_96, pk_mul, nI_add, g5, g7]
      rw [q98_97]
      by_cases b1 : b / 2 ^ (2 * i + 1) % 2 = 1
      · rw [if_pos ((m2 _).mpr b1)]
        simp only [q98_100, q98_102, q98_104, q98_105, q98_107, q98_108, q98_109, q98_110, q98_111, pk_mul, nI_add, h1, h2, true_and, Nat.reduceLT]
        simp only [q98_114, q98_115, q98_116, q98_118, q98_119, q98_120, q98_121, q98_122, pk_mul, g6, g8]
        rw [q98_123]
        by_cases b0 : b / 2 ^ (2 * i) % 2 = 1
        · rw [if_pos ((m2 _).mpr b0)]
          simp only [q98_126, q98_128, q98_130, q98_131, q98_133, q98_134, q98_135, pk_mul, nI_add, h3, h4, true_and, Nat.reduceLT]
          have hz2 : zPush i (zDb b i) st' = (2 * i) :: (2 * i + 1) :: st' := by unfold zPush; rw [if_pos (B0.mpr b0), if_pos (B1.mpr b1)]; rfl
          have := fin _ (by rw [hz2]; exact zSk_push (zSk_push hNs _) _) (fun c hc => by rw [za_up_ne hc, za_up_ne hc])
          rw [hz2] at this
          rw [hz2]
          exact this
        · rw [if_neg (fun q => b0 ((m2 _).mp q))]
          have hz2 : zPush i (zDb b i) st' = (2 * i + 1) :: st' := by unfold zPush; rw [if_neg (fun q => b0 (B0.mp q)), if_pos (B1.mpr b1)]; rfl
          have := fin _ (by rw [hz2]; exact zSk_push hNs _) (fun c hc => by rw [za_up_ne hc])
          rw [hz2] at this
          rw [hz2]
          exact this
      · rw [if_neg (fun q => b1 ((m2 _).mp q))]
        simp only [q98_114, q98_115, q98_116, q98_118, q98_119, q98_120, q98_121, q98_122, pk_mul, g6, g8]
        rw [q98_123]
        by_cases b0 : b / 2 ^ (2 * i) % 2 = 1
        · rw [if_pos ((m2 _).mpr b0)]
          simp only [q98_126, q98_128, q98_130, q98_131, q98_133, q98_134, q98_135, pk_mul, nI_add, h1, h2, true_and, Nat.reduceLT]
          have hz2 : zPush i (zDb b i) st' = (2 * i) :: st' := by unfold zPush; rw [if_pos (B0.mpr b0), if_neg (fun q => b1 (B1.mp q))]; rfl
          have := fin _ (by rw [hz2]; exact zSk_push hNs _) (fun c hc => by rw [za_up_ne hc])
          rw [hz2] at this
          rw [hz2]
          exact this
        · rw [if_neg (fun q => b0 ((m2 _).mp q))]
          have hz2 : zPush i (zDb b i) st' = st' := by unfold zPush; rw [if_neg (fun q => b0 (B0.mp q)), if_neg (fun q => b1 (B1.mp q))]; rfl
          have := fin N (by rw [hz2]; exact hNs) (fun c hc => rfl)
          rw [hz2] at this
          rw [hz2]
          exact this
    rcases hW with ⟨w1, w2, w3, w4⟩ | ⟨w1, w2, w3⟩
    · subst w4
      have hz : zTd (zDb b) (d + 1) i [] lk = zTd (zDb b) d (i + 1) (zPush i (zDb b i) []) (lk ++ [none, none]) := by
        conv => lhs; unfold zTd
        rw [if_pos w1, w1]
      have h0 : nI 1 + -1 = nI 0 := by decide
      have h1 : za_in L 37 false (nI 0) := za_in_of (n := 12) rfl (by omega) (by omega)
      have h2 : (nI 0).toNatClampNeg = 0 := by decide
      rw [w2, if_neg (by decide)]
      simp only [q98_31, q98_34, q98_36, q98_38, q98_39, q98_41, h0, h1, h2, w3, true_and, if_true]
      exact rest [] lk M (fun j p hj => by simp at hj) (by simp) hpl hl hM hz (fun _ _ => rfl) (fun _ _ _ => rfl)
    · have hi0 : ¬ i = 0 := by omega
      cases st with
      | nil =>
        have hz : zTd (zDb b) (d + 1) i [] lk = none := by
          unfold zTd
          rw [if_neg hi0]
        rw [w2, List.length_nil, if_pos (by decide), hz]
        simp only [q98_29, q98_30, zb0]
        exact ⟨(zB_f (by simp)).symm, fun l hl' => (by cases hl'), fun _ _ => True.intro, fun _ _ _ => True.intro⟩
      | cons p st =>
        obtain ⟨t1, t2⟩ := zSk_pop w3
        have hp := hpl p List.mem_cons_self
        have hlen : st.length + 1 ≤ i + 1 := by simpa using hsl
        have hz : zTd (zDb b) (d + 1) i (p :: st) lk = zTd (zDb b) d (i + 1) (zPush i (zDb b i) st) (lk.set p (some i) ++ [none, none]) := by
          conv => lhs; unfold zTd
          rw [if_neg hi0]
        have h0 : nI (p :: st).length + -1 = nI st.length := pk_m1 st.length
        have h1 : za_in L 37 false (nI st.length) := za_in_of (n := 12) rfl (by omega) (by omega)
        have h2 : (nI st.length).toNatClampNeg = st.length := nI_clamp (by omega)
        have h3 : ¬ nI p = zN := zN_ne (by omega)
        have h4 : za_in L 36 false (nI (a + p)) := za_in_of (n := 500) rfl (by omega) (by omega)
        have h5 : (nI (a + p)).toNatClampNeg = a + p := nI_clamp (by omega)
        have h6 : ¬ nI (p :: st).length = 0 := nI_ne0 (by simp) (by simp; omega)
        rw [w2, if_neg h6]
        simp only [q98_31, q98_34, q98_36, q98_38, q98_39, q98_41, q98_44, q98_45, q98_48, q98_49, q98_51, q98_53, q98_54, q98_55, q98_57, h0, h1, h2, t1, h3, true_and, if_false, nI_add, h4, h5, Nat.reduceLT]
        refine rest st (lk.set p (some i)) _ (zSk_cg t2 (za_up_ne (by decide))) (by omega) (fun q hq => hpl q (List.mem_cons_of_mem _ hq)) (by rw [List.length_set]; exact hl) (fun j hj => ?_) hz (fun j hj => by rw [za_up_oi (by omega)]) (fun c c1 c2 => by rw [za_up_ne c1])
        rw [zLf_set (by omega)]
        by_cases q : j = p
        · rw [if_pos q, q, za_up_same]; rfl
        · rw [if_neg q, za_up_oi (by omega)]; exact hM j hj
theorem s98 {n b a : Nat} (h1 : 1 ≤ n) (hn : n ≤ 5) (hb : b < 1024) (ha : a ≤ 490) : zT L 98 0 [.ref 26, .int (nI n), .int (nI b), .int (nI a), .null, .null, .null] [] M (fun r M' => r = zB ((zTd (zDb b) n 0 [] []).isSome = true) ∧ (∀ l, zTd (zDb b) n 0 [] [] = some l → ∀ j, j < 2 * n → M' 36 (a + j) = zE (zLf l j)) ∧ (∀ j, j < a → M' 36 j = M 36 j) ∧ ∀ c, c ≠ 36 → c ≠ 37 → M' c = M c) := by
  have g1 : za_in L 37 false (nI 0) := za_in_of (n := 12) rfl (by omega) (by omega)
  have g2 : (nI 0).toNatClampNeg = 0 := by decide
  simp only [q98_0, q98_1, q98_4, q98_6, q98_7, q98_9, q98_11, q98_12, q98_14, q98_15, q98_16, g1, g2, true_and, Nat.reduceLT]
  refine zT_mono (s98_loop hn hb ha n 0 rfl 1 [] [] _ (Or.inl ⟨rfl, rfl, za_up_same, rfl⟩) (by simp) (fun p hp => absurd hp List.not_mem_nil) rfl (fun j hj => by omega)) ?_
  rintro r M1 ⟨x1, x2, x3, x4⟩
  refine ⟨x1.trans (zB_cg ⟨fun q => q.1, fun q => ⟨q, fun w => by omega⟩⟩), x2, fun j hj => by rw [x3 j hj, za_up_oc (by decide)], fun c c1 c2 => by rw [x4 c c1 c2, za_up_ne c2]⟩
theorem s99_loop {n a b : Nat} (hn : n ≤ 5) (ha : a ≤ 490) (hb : b ≤ 490) {la lb : Nat → Option Nat} (hla : ∀ j, j < 2 * n → M 36 (a + j) = zE (la j)) (hlb : ∀ j, j < 2 * n → M 36 (b + j) = zE (lb j)) (h31 : ∀ j k, j < 2 * n → la j = some k → k < 2 ^ 31) (h32 : ∀ j k, j < 2 * n → lb j = some k → k < 2 ^ 31) : ∀ (d k : Nat), d + k = 2 * n → ∀ (l5 l6 : Value), (zT L 99 3 [.ref 26, .int (nI a), .int (nI b), .int (nI n), .int (nI k), l5, l6] [] M Q ↔ Q (zB (zAh la lb d k = true)) M) := by
  intro d
  induction d with
  | zero =>
    intro k hk l5 l6
    have e1 : nI (2 * n) ≤ nI k := nI_le (by omega) (by omega)
    rw [q99_3, q99_5, q99_6, q99_7, pk_mul, q99_8, if_pos e1]
    simp only [q99_69, q99_70, zb0]
    rw [zB_f (by simp [zAh])]
  | succ d ih =>
    intro k hk l5 l6
    have e1 : ¬ nI (2 * n) ≤ nI k := nI_ge (by omega) (by omega)
    have g1 : za_in L 36 false (nI (a + k)) := za_in_of (n := 500) rfl (by omega) (by omega)
    have g2 : (nI (a + k)).toNatClampNeg = a + k := nI_clamp (by omega)
    have g3 : za_in L 36 false (nI (b + k)) := za_in_of (n := 500) rfl (by omega) (by omega)
    have g4 : (nI (b + k)).toNatClampNeg = b + k := nI_clamp (by omega)
    have g5 := zE_N (h31 k · (by omega))
    have g6 := zE_N (h32 k · (by omega))
    have ih' := fun l5 l6 => ih (k + 1) (by omega) l5 l6
    have n01 : ¬ nI 0 = nI 1 := by decide
    have n10 : ¬ nI 1 = nI 0 := by decide
    rw [q99_3, q99_5, q99_6, q99_7, pk_mul, q99_8, if_neg e1]
    simp only [q99_11, q99_12, q99_15, q99_16, q99_18, q99_19, q99_20, q99_22, q99_25, q99_26, q99_29, q99_30, q99_32, q99_33, q99_36, q99_37, q99_39, q99_40, q99_41, q99_43, q99_46, q99_47, q99_50, q99_51, q99_53, q99_55, q99_57, q99_60, q99_62, q99_63, q99_66, nI_add, g1, g2, g3, g4, true_and, hla k (by omega), hlb k (by omega), g5, g6, n01, n10, if_true, if_false, zb1, zb0, ih']
    cases hA : la k with
    | none =>
      cases hB : lb k with
      | none => simp [zAh, hA, hB]
      | some y => simp [zAh, hA, hB, zB]
    | some x =>
      cases hB : lb k with
      | none => simp [zAh, hA, hB, zB]
      | some y => simp [zAh, hA, hB]
theorem s99 {n a b : Nat} (hn : n ≤ 5) (ha : a ≤ 490) (hb : b ≤ 490) {la lb : Nat → Option Nat} (hla : ∀ j, j < 2 * n → M 36 (a + j) = zE (la j)) (hlb : ∀ j, j < 2 * n → M 36 (b + j) = zE (lb j)) (h31 : ∀ j k, j < 2 * n → la j = some k → k < 2 ^ 31) (h32 : ∀ j k, j < 2 * n → lb j = some k → k < 2 ^ 31) : zT L 99 0 [.ref 26, .int (nI a), .int (nI b), .int (nI n), .null, .null, .null] [] M Q ↔ Q (zB (zAh la lb (2 * n) 0 = true)) M := by
  simp only [q99_0, q99_1]
  exact s99_loop hn ha hb hla hlb h31 h32 (2 * n) 0 rfl _ _
end ZA
