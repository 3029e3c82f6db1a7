/-! the model's rows of keys -/
def zRx (F k : Nat) : Nat → Nat → List Nat
  | 0, _ => []
  | d + 1, r => if zVal F k r = true then r :: zRx F k d (r + 1) else zRx F k d (r + 1)
def zFw (n v : Nat) : Nat → Bool
  | 0 => false
  | t + 1 => zFw n v t || (decide (0 < t) && decide (zDg n v (n - t) < zDg n v (n - 1 - t)))
theorem zFw_iff {n v : Nat} : ∀ t, t ≤ n → (zFw n v t = true ↔ ∃ j, n - t ≤ j ∧ j + 1 < n ∧ zDg n v (j + 1) < zDg n v j)
  | 0, _ => by
    constructor
    · intro h; cases h
    · rintro ⟨j, h1, h2, _⟩; omega
  | t + 1, ht => by
    unfold zFw
    rw [Bool.or_eq_true, zFw_iff t (by omega), Bool.and_eq_true, decide_eq_true_eq, decide_eq_true_eq]
    constructor
    · rintro (⟨j, h1, h2, h3⟩ | ⟨h1, h2⟩)
      · exact ⟨j, by omega, h2, h3⟩
      · refine ⟨n - 1 - t, by omega, by omega, ?_⟩
        rw [show n - 1 - t + 1 = n - t by omega]
        exact h2
    · rintro ⟨j, h1, h2, h3⟩
      by_cases e : j = n - 1 - t
      · right
        refine ⟨by omega, ?_⟩
        rw [← e, show n - t = j + 1 by omega]
        exact h3
      · exact Or.inl ⟨j, by omega, h2, h3⟩
theorem zFw_nfl {n v : Nat} : zFw n v n = true ↔ ¬ zNfl n v = true := by
  rw [zFw_iff n (Nat.le_refl _), zNfl_iff]
  constructor
  · rintro ⟨j, _, h2, h3⟩ h
    have := h j h2
    omega
  · intro h
    apply Classical.byContradiction
    intro q
    refine h (fun j hj => ?_)
    apply Nat.le_of_not_lt
    intro w
    exact q ⟨j, by omega, hj, w⟩
section ZA
variable {L : Nat} {M : za_M} {Q : Int32 → za_M → Prop}
theorem zSubAdd (x : Int32) : x + -1 = x - nI 1 := by
  rw [Int32.sub_eq_add_neg]
  rfl
theorem s102_p {l1 l3 l6 l7 l8 l9 : Value} {n : Nat} (hn : n ≤ 5) : ∀ (d i : Nat), d + i = n → (zT L 102 6 [.ref 26, l1, .int (nI n), l3, .int (nI (3 ^ i)), .int (nI i), l6, l7, l8, l9] [] M Q ↔ zT L 102 24 [.ref 26, l1, .int (nI n), l3, .int (nI (3 ^ n)), .int (nI n), l6, l7, l8, l9] [] M Q) := by
  intro d
  induction d with
  | zero =>
    intro i hd
    have hi : i = n := by omega
    subst hi
    rw [q102_6, q102_8, q102_9, if_pos (Int32.le_refl _)]
  | succ d ih =>
    intro i hd
    have e1 : ¬ nI n ≤ nI i := nI_ge (by omega) (by omega)
    rw [q102_6, q102_8, q102_9, if_neg e1]
    simp only [q102_12, q102_14, q102_15, q102_16, q102_18, q102_21, pk_mul, nI_add]
    rw [← Nat.pow_succ]
    exact ih (i + 1) (by omega)
/-- one row of keys is written out, from its end on -/
theorem s102_in {l1 l3 l4 l5 : Value} {n v : Nat} (hn : n ≤ 5) (hv : v < 243) : ∀ (c t : Nat), c + t = n → ∀ (M : za_M), (∀ j, c ≤ j → j < n → M 38 j = nI (zDg n v j)) → (∀ (M' : za_M) (l7 l9 : Value), (∀ j, j < n → M' 38 j = nI (zDg n v j)) → (∀ x, x ≠ 38 → M' x = M x) → zT L 102 114 [.ref 26, l1, .int (nI n), l3, l4, l5, .int (nI v), l7, .int (zB (zFw n v n = true)), l9] [] M' Q) →
    zT L 102 49 [.ref 26, l1, .int (nI n), l3, l4, l5, .int (nI v), .int (nI (v / 3 ^ t)), .int (zB (zFw n v t = true)), .int (nI c - nI 1)] [] M Q := by
  intro c
  induction c with
  | zero =>
    intro t ht M hM kk
    have hte : t = n := by omega
    subst hte
    have e1 : nI 0 - nI 1 < 0 := by decide
    rw [q102_49, q102_51, if_pos e1]
    exact kk M _ _ (fun j hj => hM j (Nat.zero_le _) hj) (fun _ _ => rfl)
  | succ c ih =>
    intro t ht M hM kk
    have hc : nI (c + 1) - nI 1 = nI c := nI_m1 c
    have e1 : ¬ nI c < 0 := nI_pos (by omega)
    have hvd : v / 3 ^ t ≤ v := Nat.div_le_self _ _
    have n3 : ¬ nI 3 = 0 := by decide
    have e2 : za_in L 38 false (nI c) := za_in_of (n := 5) rfl (by omega) (by omega)
    have e3 : (nI c).toNatClampNeg = c := nI_clamp (by omega)
    have e4 : nI (v / 3 ^ t) - nI (v / 3 ^ t) / nI 3 * nI 3 = nI (v / 3 ^ t % 3) := pk_rem (by omega) (by omega) (by omega)
    have e5 : nI (v / 3 ^ t) / nI 3 = nI (v / 3 ^ (t + 1)) := by rw [pk_div (by omega) (by omega) (by omega), Nat.pow_succ, Nat.div_div_eq_div_mul]
    have hdg : v / 3 ^ t % 3 = zDg n v c := by
      unfold zDg
      rw [show n - 1 - c = t by omega]
    have hd3 := zDg_lt n v c
    have e6 : nI n - nI 1 = nI (n - 1) := pk_sub (by omega)
    rw [q102_49, hc, q102_51, if_neg e1]
    simp only [q102_54, q102_55, q102_58, q102_60, q102_62, q102_63, q102_64, n3, not_false_eq_true, e2, e3, e4, hdg, true_and, Nat.reduceLT]
    have hM1 : ∀ j, c ≤ j → j < n → za_up M 38 c (nI (zDg n v c)) 38 j = nI (zDg n v j) := by
      intro j h1 h2
      by_cases e : j = c
      · subst e; rw [za_up_same]
      · rw [za_up_oi e]; exact hM j (by omega) h2
    generalize hN : za_up M 38 c (nI (zDg n v c)) = N at hM1
    have hfr : ∀ x, x ≠ 38 → N x = M x := fun x hx => by rw [← hN, za_up_ne hx]
    simp only [q102_65, q102_67, q102_68, q102_69, q102_71, q102_73, q102_75, q102_76, q102_77, n3, not_false_eq_true, e5, e6, true_and]
    rw [q102_78]
    have fin : ∀ b : Int32, (b = nI 1 ∧ (0 < t ∧ zDg n v (n - t) < zDg n v (n - 1 - t)) ∨ b = nI 0 ∧ ¬ (0 < t ∧ zDg n v (n - t) < zDg n v (n - 1 - t))) → zT L 102 105 [.ref 26, l1, .int (nI n), l3, l4, l5, .int (nI v), .int (nI (v / 3 ^ (t + 1))), .int (zB (zFw n v t = true)), .int (nI c)] [.int b, .int (zB (zFw n v t = true))] N Q := by
      intro b hb
      have hor : zB (zFw n v t = true) ||| b = zB (zFw n v (t + 1) = true) := by
        rcases hb with ⟨rfl, h1⟩ | ⟨rfl, h1⟩
        · have h2 : zFw n v (t + 1) = true := by simp [zFw, h1]
          rw [zB_t h2]
          by_cases q : zFw n v t = true
          · rw [zB_t q]; decide
          · rw [zB_f q]; decide
        · by_cases q : zFw n v t = true
          · have h2 : zFw n v (t + 1) = true := by simp [zFw, q]
            rw [zB_t q, zB_t h2]; decide
          · have h2 : ¬ zFw n v (t + 1) = true := by
              unfold zFw
              rw [Bool.or_eq_true, Bool.and_eq_true, decide_eq_true_eq, decide_eq_true_eq]
              rintro (w | w)
              · exact q w
              · exact h1 w
            rw [zB_f q, zB_f h2]; decide
      simp only [q102_105, q102_106, q102_108, q102_111, hor, zSubAdd]
      exact ih (t + 1) (by omega) N hM1 (fun M' l7 l9 a b => kk M' l7 l9 a (fun x hx => (b x hx).trans (hfr x hx)))
    by_cases ht0 : t = 0
    · have e7 : nI (n - 1) ≤ nI c := nI_le (by omega) (by omega)
      rw [if_pos e7, q102_104]
      exact fin _ (Or.inr ⟨rfl, by omega⟩)
    · have e7 : ¬ nI (n - 1) ≤ nI c := nI_ge (by omega) (by omega)
      have e8 : za_in L 38 false (nI (c + 1)) := za_in_of (n := 5) rfl (by omega) (by omega)
      have e9 : (nI (c + 1)).toNatClampNeg = c + 1 := nI_clamp (by omega)
      have f1 := hM1 c (Nat.le_refl _) (by omega)
      have f2 := hM1 (c + 1) (by omega) (by omega)
      have hd4 := zDg_lt n v (c + 1)
      rw [if_neg e7]
      simp only [q102_81, q102_82, q102_85, q102_87, q102_88, q102_89, q102_92, q102_94, q102_95, q102_96, e2, e3, e8, e9, f1, f2, true_and, nI_add]
      rw [q102_97]
      have g1 : n - t = c + 1 := by omega
      have g2 : n - 1 - t = c := by omega
      by_cases hq : zDg n v c ≤ zDg n v (c + 1)
      · rw [if_pos (nI_le hq (by omega)), q102_104]
        exact fin _ (Or.inr ⟨rfl, by rw [g1, g2]; omega⟩)
      · rw [if_neg (nI_ge (by omega) (by omega)), q102_100, q102_101]
        exact fin _ (Or.inl ⟨rfl, by rw [g1, g2]; omega⟩)
/-- what keysOf leaves -/
def zKO (n : Nat) (M M' : za_M) (r : Int32) (o : Option Nat) : Prop := (match o with
  | none => r = nI 0
  | some v => r = nI 1 ∧ ∀ j, j < n → M' 38 j = nI (zDg n v j)) ∧ ∀ c, c ≠ 38 → M' c = M c
theorem s102_v {F n : Nat} (hF : F ≤ 5) (hn : n ≤ 5) {l3 : Value} : ∀ (d v left : Nat), d + v = 3 ^ n → left < 1000 → ∀ (M : za_M) (l7 l8 l9 : Value),
    zT L 102 30 [.ref 26, .int (nI F), .int (nI n), l3, .int (nI (3 ^ n)), .int (nI left), .int (nI v), l7, l8, l9] [] M (fun r M' => zKO n M M' r (zRx F n d v)[left]?) := by
  have hp := zPw hn
  intro d
  induction d with
  | zero =>
    intro v left hd hlt M l7 l8 l9
    have e1 : nI (3 ^ n) ≤ nI v := nI_le (by omega) (by omega)
    rw [q102_30, q102_32, q102_34, if_pos e1]
    simp only [q102_143, q102_144, zb0]
    exact ⟨rfl, fun _ _ => rfl⟩
  | succ d ih =>
    intro v left hd hlt M l7 l8 l9
    have e1 : ¬ nI (3 ^ n) ≤ nI v := nI_ge (by omega) (by omega)
    rw [q102_30, q102_32, q102_34, if_neg e1]
    simp only [q102_37, q102_39, q102_41, q102_42, q102_44, q102_45, q102_46, q102_47]
    have h0 : nI v = nI (v / 3 ^ 0) := by rw [Nat.pow_zero, Nat.div_one]
    have h1 : nI 0 = zB (zFw n v 0 = true) := (zB_f (by simp [zFw])).symm
    have hin := s102_in (L := L) (l1 := .int (nI F)) (l3 := l3) (l4 := .int (nI (3 ^ n))) (l5 := .int (nI left)) (Q := fun r M' => zKO n M M' r (zRx F n (d + 1) v)[left]?) hn (show v < 243 by omega) n 0 (by omega) M (fun j a b => by omega)
    rw [← h0, ← h1] at hin
    refine hin (fun M' l7' l9' hM hf => ?_)
    have nxt : ∀ (M1 : za_M) (left' : Nat) (l7 l8 l9 : Value), left' < 1000 → (∀ x, x ≠ 38 → M1 x = M x) → (zRx F n (d + 1) v)[left]? = (zRx F n d (v + 1))[left']? → zT L 102 137 [.ref 26, .int (nI F), .int (nI n), l3, .int (nI (3 ^ n)), .int (nI left'), .int (nI v), l7, l8, l9] [] M1 (fun r M' => zKO n M M' r (zRx F n (d + 1) v)[left]?) := by
      intro M1 left' l7 l8 l9 hlt' hf1 he
      simp only [q102_137, q102_140, nI_add]
      refine zT_mono (ih (v + 1) left' (by omega) hlt' M1 l7 l8 l9) ?_
      rintro r M2 ⟨a, b⟩
      rw [he]
      exact ⟨a, fun c hc => (b c hc).trans (hf1 c hc)⟩
    have take : zVal F n v = true → zT L 102 127 [.ref 26, .int (nI F), .int (nI n), l3, .int (nI (3 ^ n)), .int (nI left), .int (nI v), l7', .int (zB (zFw n v n = true)), l9'] [] M' (fun r M' => zKO n M M' r (zRx F n (d + 1) v)[left]?) := by
      intro hv
      have hz : zRx F n (d + 1) v = v :: zRx F n d (v + 1) := by
        conv => lhs; unfold zRx
        rw [if_pos hv]
      rw [q102_127, q102_129]
      cases left with
      | zero =>
        rw [if_pos (by decide)]
        simp only [q102_132, q102_133, zb1]
        rw [hz]
        exact ⟨⟨rfl, hM⟩, hf⟩
      | succ left =>
        rw [if_neg (nI_ne0 (by omega) (by omega)), q102_134, pk_m1]
        refine nxt M' left _ _ _ (by omega) hf ?_
        rw [hz]
        rfl
    rw [q102_114, q102_115, q102_116]
    have e5 : nI F = nI 5 ↔ F = 5 := nI_eq (by omega) (by omega)
    by_cases hF5 : F = 5
    · rw [if_pos (e5.mpr hF5), q102_119, q102_121]
      by_cases hw : zFw n v n = true
      · have hv : ¬ zVal F n v = true := by
          unfold zVal
          rw [hF5]
          have := zFw_nfl.mp hw
          simp [this]
        have hz : zRx F n (d + 1) v = zRx F n d (v + 1) := by
          conv => lhs; unfold zRx
          rw [if_neg hv]
        have hz0 : ¬ zB (zFw n v n = true) = 0 := by rw [zB_t hw]; decide
        rw [if_neg hz0, q102_124]
        exact nxt M' left _ _ _ hlt hf (by rw [hz])
      · have hv : zVal F n v = true := by
          unfold zVal
          have : zNfl n v = true := Classical.byContradiction (fun q => hw (zFw_nfl.mpr q))
          simp [this]
        have hz0 : zB (zFw n v n = true) = 0 := by rw [zB_f hw]; decide
        rw [if_pos hz0]
        exact take hv
    · rw [if_neg (fun q => hF5 (e5.mp q))]
      exact take (by unfold zVal; simp [hF5])
theorem s102 {F n i : Nat} (hF : F ≤ 5) (hn : n ≤ 5) (hi : i < 1000) : zT L 102 0 [.ref 26, .int (nI F), .int (nI n), .int (nI i), .null, .null, .null, .null, .null, .null] [] M (fun r M' => zKO n M M' r (zRx F n (3 ^ n) 0)[i]?) := by
  have h1 : nI 1 = nI (3 ^ 0) := rfl
  simp only [q102_0, q102_1, q102_3, q102_4]
  rw [h1, s102_p hn n 0 rfl]
  simp only [q102_24, q102_25, q102_27, q102_28]
  exact s102_v hF hn (3 ^ n) 0 i rfl hi M _ _ _
end ZA
