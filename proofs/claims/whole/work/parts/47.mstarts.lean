/-! the model makes its trees, and its starts -/
theorem zGet2 {α : Type} (P B : List α) (a b : α) (i : Nat) : (P ++ a :: b :: B)[i]? = if i < P.length then P[i]? else if i = P.length then some a else if i = P.length + 1 then some b else B[i - P.length - 2]? := by
  by_cases h1 : i < P.length
  · rw [if_pos h1, List.getElem?_append_left h1]
  · rw [if_neg h1, List.getElem?_append_right (by omega)]
    by_cases h2 : i = P.length
    · rw [if_pos h2, h2, Nat.sub_self]; rfl
    · rw [if_neg h2]
      by_cases h3 : i = P.length + 1
      · rw [if_pos h3, h3, show P.length + 1 - P.length = 1 by omega]; rfl
      · rw [if_neg h3, show i - P.length = (i - P.length - 2) + 1 + 1 by omega]
        rfl
def zTv (T : List (List (Option Nat))) : Prop := ∀ x ∈ T, ∀ j k, zLf x j = some k → k < 100
section ZA
variable {L : Nat} {M : za_M} {Q : Int32 → za_M → Prop}
theorem s100_sw {l1 l2 : Value} {q : Nat} (hq : q ≤ 42) : ∀ (d k : Nat), d + k = 10 → ∀ (M : za_M) (l5 : Value), (∀ (M' : za_M) (l5 : Value), (∀ j, k ≤ j → j < 10 → M' 36 (10 * (q + 1) + j) = M 36 (10 * q + j) ∧ M' 36 (10 * q + j) = M 36 (10 * (q + 1) + j)) → (∀ x, (x < 10 * q + k ∨ (10 * q + 10 ≤ x ∧ x < 10 * (q + 1) + k) ∨ 10 * (q + 1) + 10 ≤ x) → M' 36 x = M 36 x) → (∀ c, c ≠ 36 → M' c = M c) → zT L 100 131 [.ref 26, l1, l2, .int (nI (q + 1)), .int (nI 10), l5] [] M' Q) →
    zT L 100 62 [.ref 26, l1, l2, .int (nI (q + 1)), .int (nI k), l5] [] M Q := by
  intro d
  induction d with
  | zero =>
    intro k hk M l5 kk
    have hk : k = 10 := by omega
    subst hk
    rw [q100_62, q100_64, q100_66, if_pos (Int32.le_refl _)]
    exact kk M l5 (fun j a b => by omega) (fun _ _ => rfl) (fun _ _ => rfl)
  | succ d ih =>
    intro k hk M l5 kk
    have e1 : ¬ nI 10 ≤ nI k := nI_ge (by omega) (by omega)
    have hm : nI (q + 1) - nI 1 = nI q := nI_m1 q
    have g1 : za_in L 36 false (nI (10 * (q + 1) + k)) := za_in_of (n := 500) rfl (by omega) (by omega)
    have g2 : (nI (10 * (q + 1) + k)).toNatClampNeg = 10 * (q + 1) + k := nI_clamp (by omega)
    have g3 : za_in L 36 false (nI (10 * q + k)) := za_in_of (n := 500) rfl (by omega) (by omega)
    have g4 : (nI (10 * q + k)).toNatClampNeg = 10 * q + k := nI_clamp (by omega)
    rw [q100_62, q100_64, q100_66, if_neg e1]
    simp only [q100_69, q100_70, q100_73, q100_75, q100_76, q100_77, q100_79, q100_80, q100_81, q100_83, q100_84, q100_87, q100_89, q100_90, q100_91, q100_93, q100_94, q100_95, q100_98, q100_100, q100_101, q100_102, q100_103, q100_104, q100_106, q100_107, q100_108, q100_109, q100_110, q100_113, q100_115, q100_116, q100_117, q100_118, q100_119, q100_121, q100_122, q100_124, q100_125, q100_128, hm, pk_mul, nI_add, g1, g2, g3, g4, true_and, Nat.reduceLT]
    refine ih (k + 1) (by omega) _ _ (fun M' l5' a b c => kk M' l5' (fun j h1 h2 => ?_) (fun x hx => ?_) (fun x hx => by rw [c x hx, za_up_ne hx, za_up_ne hx]))
    · by_cases e : j = k
      · subst e
        refine ⟨?_, ?_⟩
        · rw [b _ (by omega), za_up_oi (by omega), za_up_same]
        · rw [b _ (by omega), za_up_same]
      · obtain ⟨a1, a2⟩ := a j (by omega) h2
        refine ⟨?_, ?_⟩
        · rw [a1, za_up_oi (by omega), za_up_oi (by omega)]
        · rw [a2, za_up_oi (by omega), za_up_oi (by omega)]
    · rw [b x (by omega), za_up_oi (by omega), za_up_oi (by omega)]
theorem s100_bub {n : Nat} (hn : n ≤ 5) {l2 : Value} {l : List (Option Nat)} : ∀ (R B : List (List (Option Nat))) (M : za_M) (l4 l5 : Value), R.length + B.length ≤ 42 → zTv (R.reverse ++ l :: B) → zTA n M (R.reverse ++ l :: B) → (∀ (M' : za_M) (l3 l4 l5 : Value), zTA n M' (zBub n l R B) → zTv (zBub n l R B) → (∀ c, c ≠ 36 → M' c = M c) → zT L 100 137 [.ref 26, .int (nI n), l2, l3, l4, l5] [] M' Q) →
    zT L 100 37 [.ref 26, .int (nI n), l2, .int (nI R.length), l4, l5] [] M Q := by
  intro R
  induction R with
  | nil =>
    intro B M l4 l5 hlen hv hT kk
    rw [q100_37, q100_38, List.length_nil, if_pos (by decide)]
    exact kk M _ _ _ hT hv (fun _ _ => rfl)
  | cons x R ih =>
    intro B M l4 l5 hlen hv hT kk
    simp only [List.length_cons] at hlen
    have hrev : (x :: R).reverse ++ l :: B = R.reverse ++ x :: l :: B := by simp
    rw [hrev] at hv hT
    have e1 : ¬ nI (x :: R).length ≤ 0 := nI_nle (by simp) (by simp; omega)
    have hm : nI (R.length + 1) - nI 1 = nI R.length := nI_m1 R.length
    have hix : (R.reverse ++ x :: l :: B)[R.length]? = some x := by rw [zGet2]; simp
    have hil : (R.reverse ++ x :: l :: B)[R.length + 1]? = some l := by rw [zGet2]; simp
    have hxx := hT _ _ hix
    have hll := hT _ _ hil
    have vx := hv x (List.mem_of_getElem? hix)
    have vl := hv l (List.mem_of_getElem? hil)
    rw [q100_37, q100_38, if_neg e1]
    simp only [List.length_cons, q100_41, q100_42, q100_44, q100_45, q100_46, q100_48, q100_49, q100_50, q100_51, q100_52, q100_53, hm, pk_mul, s99 hn (show 10 * (R.length + 1) ≤ 490 by omega) (show 10 * R.length ≤ 490 by omega) hll hxx (fun j k _ h => by have := vl j k h; omega) (fun j k _ h => by have := vx j k h; omega)]
    rw [q100_56]
    by_cases hah : zAh (zLf l) (zLf x) (2 * n) 0 = true
    · have hz : zBub n l (x :: R) B = zBub n l R (x :: B) := by
        conv => lhs; unfold zBub
        rw [if_pos hah]
      rw [hz] at kk
      rw [zB_t hah, if_neg (by decide), q100_59, q100_60]
      refine s100_sw (by omega) 10 0 rfl M _ (fun M' l5' a b c => ?_)
      simp only [q100_131, q100_134, pk_m1]
      have hT' : zTA n M' (R.reverse ++ l :: x :: B) := by
        intro i y hy j hj
        rw [zGet2] at hy
        simp only [List.length_reverse] at hy
        by_cases i1 : i < R.length
        · rw [if_pos i1] at hy
          rw [b _ (by omega)]
          exact hT i y (by rw [zGet2, List.length_reverse, if_pos i1]; exact hy) j hj
        · rw [if_neg i1] at hy
          by_cases i2 : i = R.length
          · rw [if_pos i2] at hy
            cases hy
            rw [i2, (a j (by omega) (by omega)).2]
            exact hll j hj
          · rw [if_neg i2] at hy
            by_cases i3 : i = R.length + 1
            · rw [if_pos i3] at hy
              cases hy
              rw [i3, (a j (by omega) (by omega)).1]
              exact hxx j hj
            · rw [if_neg i3] at hy
              rw [b _ (by omega)]
              exact hT i y (by rw [zGet2, List.length_reverse, if_neg i1, if_neg i2, if_neg i3]; exact hy) j hj
      refine ih (x :: B) M' _ _ (by simp; omega) (fun y hy => hv y ?_) hT' (fun M'' l3 l4 l5 a' b' c' => kk M'' l3 l4 l5 a' b' (fun z hz => (c' z hz).trans (c z hz)))
      simp only [List.mem_append, List.mem_cons] at hy ⊢
      rcases hy with q | q | q | q
      · exact Or.inl q
      · exact Or.inr (Or.inr (Or.inl q))
      · exact Or.inr (Or.inl q)
      · exact Or.inr (Or.inr (Or.inr q))
    · have hz : zBub n l (x :: R) B = R.reverse ++ x :: l :: B := by
        conv => lhs; unfold zBub
        rw [if_neg hah]
        exact hrev
      rw [hz] at kk
      rw [zB_f hah, if_pos (by decide)]
      exact kk M _ _ _ hT hv (fun _ _ => rfl)
theorem zBub_mem {n : Nat} {l y : List (Option Nat)} : ∀ (R B : List (List (Option Nat))), y ∈ zBub n l R B → y = l ∨ y ∈ R ∨ y ∈ B
  | [], B, h => by
    rcases List.mem_cons.mp h with q | q
    · exact Or.inl q
    · exact Or.inr (Or.inr q)
  | x :: R, B, h => by
    unfold zBub at h
    split at h
    · rcases zBub_mem R (x :: B) h with q | q | q
      · exact Or.inl q
      · exact Or.inr (Or.inl (List.mem_cons_of_mem _ q))
      · rcases List.mem_cons.mp q with q | q
        · exact Or.inr (Or.inl (by rw [q]; exact List.mem_cons_self))
        · exact Or.inr (Or.inr q)
    · simp only [List.mem_append, List.mem_cons, List.mem_reverse] at h
      rcases h with q | q | q
      · exact Or.inr (Or.inl (by rcases q with q | q; rw [q]; exact List.mem_cons_self; exact List.mem_cons_of_mem _ q))
      · exact Or.inl q
      · exact Or.inr (Or.inr q)
theorem zLf_mem {l : List (Option Nat)} {j k : Nat} (h : zLf l j = some k) : some k ∈ l := by
  unfold zLf at h
  rw [List.getD_eq_getElem?_getD] at h
  cases hl : l[j]? with
  | none => rw [hl] at h; cases h
  | some o =>
    rw [hl] at h
    have : o = some k := h
    rw [← this]
    exact List.mem_of_getElem? hl
theorem s100_loop {n : Nat} (h1 : 1 ≤ n) (hn : n ≤ 5) : ∀ (d b : Nat), d + b = 4 ^ n → ∀ (T : List (List (Option Nat))) (M : za_M) (l3 l4 l5 : Value), zMk n d b T = zTl n → M 26 16 = nI T.length → zTA n M T → zTv T →
    zT L 100 7 [.ref 26, .int (nI n), .int (nI b), l3, l4, l5] [] M (fun _ M' => M' 26 16 = nI (zTl n).length ∧ zTA n M' (zTl n) ∧ (∀ f, f ≠ 16 → M' 26 f = M 26 f) ∧ ∀ c, c ≠ 26 → c ≠ 36 → c ≠ 37 → M' c = M c) := by
  have hp := zPw4 hn
  have h42 := (zMk_ok h1 hn).2
  have hsh : nI 1 <<< (nI (2 * n) &&& 31) = nI (4 ^ n) := by
    have : n = 1 ∨ n = 2 ∨ n = 3 ∨ n = 4 ∨ n = 5 := by omega
    rcases this with rfl | rfl | rfl | rfl | rfl <;> decide
  intro d
  induction d with
  | zero =>
    intro b hd T M l3 l4 l5 hz hm hT hv
    have e1 : nI (4 ^ n) ≤ nI b := nI_le (by omega) (by omega)
    have hz : T = zTl n := hz
    rw [q100_7, q100_8, q100_9, q100_10, q100_11, pk_mul, q100_12, hsh, q100_13, if_pos e1, q100_153, ← hz]
    exact ⟨hm, hT, fun _ _ => rfl, fun _ _ _ _ => rfl⟩
  | succ d ih =>
    intro b hd T M l3 l4 l5 hz hm hT hv
    have e1 : ¬ nI (4 ^ n) ≤ nI b := nI_ge (by omega) (by omega)
    have hTl := zMk_len (n := n) (d + 1) b T
    rw [hz] at hTl
    rw [q100_7, q100_8, q100_9, q100_10, q100_11, pk_mul, q100_12, hsh, q100_13, if_neg e1]
    simp only [q100_16, q100_17, q100_18, q100_19, q100_21, q100_22, q100_25, q100_26, hm, pk_mul]
    refine zT_mono (s98 h1 hn (by omega) (show 10 * T.length ≤ 490 by omega)) ?_
    rintro r M1 ⟨rfl, x2, x3, x4⟩
    have hm1 : M1 26 16 = nI T.length := by rw [x4 26 (by decide) (by decide)]; exact hm
    have hT1 : zTA n M1 T := by
      intro i l hi j hj
      have hil := (List.getElem?_eq_some_iff.mp hi).1
      rw [x3 _ (by omega)]
      exact hT i l hi j hj
    rw [q100_29]
    cases hdz : zTd (zDb b) n 0 [] [] with
    | none =>
      have hz' : zMk n d (b + 1) T = zTl n := by
        rw [← hz]
        conv => rhs; unfold zMk
        rw [hdz]
      rw [zB_f (by simp), if_pos (by decide)]
      simp only [q100_147, q100_150, nI_add]
      refine zT_mono (ih (b + 1) (by omega) T M1 _ _ _ hz' hm1 hT1 hv) ?_
      rintro r2 M2 ⟨y1, y2, y3, y4⟩
      exact ⟨y1, y2, fun f hf => by rw [y3 f hf, x4 26 (by decide) (by decide)], fun c c1 c2 c3 => by rw [y4 c c1 c2 c3, x4 c c2 c3]⟩
    | some l =>
      have hz' : zMk n d (b + 1) (zBub n l T.reverse []) = zTl n := by
        rw [← hz]
        conv => rhs; unfold zMk
        rw [hdz]
      rw [zB_t (by simp), if_neg (by decide)]
      simp only [q100_32, q100_33, q100_36, hm1]
      have hll := x2 l hdz
      have vl : ∀ j k, zLf l j = some k → k < 100 := by
        intro j k hj
        have := zTd_K n 0 [] [] l (fun o ho => absurd ho List.not_mem_nil) hdz _ (zLf_mem hj) k rfl
        omega
      have hrr : T.reverse.length = T.length := List.length_reverse
      have hT2 : zTA n M1 (T.reverse.reverse ++ l :: []) := by
        rw [List.reverse_reverse]
        intro i y hy j hj
        by_cases hil : i < T.length
        · rw [List.getElem?_append_left hil] at hy
          exact hT1 i y hy j hj
        · have hlen2 := (List.getElem?_eq_some_iff.mp hy).1
          simp at hlen2
          have hie : i = T.length := by omega
          rw [List.getElem?_append_right (by omega), hie, Nat.sub_self] at hy
          cases hy
          rw [hie]
          exact hll j hj
      have hv2 : zTv (T.reverse.reverse ++ l :: []) := by
        rw [List.reverse_reverse]
        intro y hy
        rcases List.mem_append.mp hy with q | q
        · exact hv y q
        · rw [List.mem_singleton.mp q]; exact vl
      have hbub := s100_bub (L := L) (n := n) hn (l2 := .int (nI b)) (l := l) (Q := fun _ M' => M' 26 16 = nI (zTl n).length ∧ zTA n M' (zTl n) ∧ (∀ f, f ≠ 16 → M' 26 f = M 26 f) ∧ ∀ c, c ≠ 26 → c ≠ 36 → c ≠ 37 → M' c = M c) T.reverse [] M1 l4 l5 (by rw [hrr]; simp; omega) hv2 hT2
      rw [hrr] at hbub
      refine hbub (fun M2 a3 a4 a5 b2 b3 c2 => ?_)
      have hm2 : M2 26 16 = nI T.length := by rw [c2 26 (by decide)]; exact hm1
      simp only [q100_137, q100_138, q100_139, q100_142, q100_143, q100_144, q100_147, q100_150, hm2, nI_add]
      have hbl : (zBub n l T.reverse []).length = T.length + 1 := by rw [zBub_len, hrr]; simp
      refine zT_mono (ih (b + 1) (by omega) (zBub n l T.reverse []) _ _ _ _ hz' (by rw [za_up_same, hbl]) (fun i y hy j hj => by rw [za_up_oc (by decide)]; exact b2 i y hy j hj) b3) ?_
      rintro r3 M3 ⟨y1, y2, y3, y4⟩
      refine ⟨y1, y2, fun f hf => ?_, fun c c1 c2' c3 => ?_⟩
      · rw [y3 f hf, za_up_oi hf, c2 26 (by decide), x4 26 (by decide) (by decide)]
      · rw [y4 c c1 c2' c3, za_up_ne c1, c2 c c2', x4 c c2' c3]
theorem s100 {n : Nat} (h1 : 1 ≤ n) (hn : n ≤ 5) : zT L 100 0 [.ref 26, .int (nI n), .null, .null, .null, .null] [] M (fun _ M' => M' 26 16 = nI (zTl n).length ∧ zTA n M' (zTl n) ∧ (∀ f, f ≠ 16 → M' 26 f = M 26 f) ∧ ∀ c, c ≠ 26 → c ≠ 36 → c ≠ 37 → M' c = M c) := by
  simp only [q100_0, q100_1, q100_2, q100_5, q100_6]
  refine zT_mono (s100_loop h1 hn (4 ^ n) 0 rfl [] _ _ _ _ (zMk_ok h1 hn).1 (by rw [za_up_same]; rfl) (fun i l hi => by simp at hi) (fun x hx => absurd hx List.not_mem_nil)) ?_
  rintro r M1 ⟨y1, y2, y3, y4⟩
  exact ⟨y1, y2, fun f hf => by rw [y3 f hf, za_up_oi hf], fun c c1 c2 c3 => by rw [y4 c c1 c2 c3, za_up_ne c1]⟩
end ZA
