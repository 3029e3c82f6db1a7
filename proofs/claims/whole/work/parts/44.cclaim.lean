/-! a claim: pure, and the class's -/
/-- one start is tried: how it breaks (0: it holds), and what the run did -/
def zTry (p : Nat) (pr : Nat → zQ) (e A : Nat) (ke : Bool) (S0 : zS) : Nat × Nat × Option Nat :=
  ((if (zRun p pr 500 S0 0 0 none).1 = 0 then (if zForm (zRun p pr 500 S0 0 0 none).2.1 ((zRun p pr 500 S0 0 0 none).2.1.2.2.2 e) A = true then (if (ke = true ∧ ¬ zKeep (zRun p pr 500 S0 0 0 none).2.1.2.1 (zRch (zRun p pr 500 S0 0 0 none).2.1 ((zRun p pr 500 S0 0 0 none).2.1.2.2.2 e) (if A = 4 then 2 else 1)) S0.2.1 S0.1 = true) then 5 else 0) else 4) else (zRun p pr 500 S0 0 0 none).1), (zRun p pr 500 S0 0 0 none).2.2.1, (zRun p pr 500 S0 0 0 none).2.2.2)
def zLoop (t : zS → Nat × Nat × Option Nat) : List zS → Nat → Nat → Option Nat → (Nat × Nat × Option Nat) ⊕ (Nat × zS × Nat × Nat × Option Nat)
  | [], m, d, la => .inl (m, d, la)
  | S :: l, m, _, _ => if (t S).1 = 0 then zLoop t l (m + 1) (t S).2.1 (t S).2.2 else .inr (m, S, (t S).1, (t S).2.1, (t S).2.2)
theorem zLoop_app (t : zS → Nat × Nat × Option Nat) : ∀ (l l' : List zS) (m d : Nat) (la : Option Nat), zLoop t (l ++ l') m d la = (match zLoop t l m d la with
    | .inl (m, d, la) => zLoop t l' m d la
    | .inr x => .inr x)
  | [], l', m, d, la => rfl
  | S :: l, l', m, d, la => by
    simp only [List.cons_append, zLoop]
    split
    · exact zLoop_app t l l' (m + 1) _ _
    · rfl
def zSx (F v k : Nat) : Nat → Nat → List zS
  | 0, _ => []
  | d + 1, r => match zStart F v k r with
    | none => zSx F v k d (r + 1)
    | some S => S :: zSx F v k d (r + 1)
def zAx (F v : Nat) : Nat → Nat → List zS
  | 0, _ => []
  | d + 1, k => zSx F v k ((if F = 4 then 4 else 3) ^ k) 0 ++ zAx F v d (k + 1)
theorem zHv_K {v k : Nat} : ∀ w j, zHv v k w = some j → j < k := by
  intro w j hj
  unfold zHv at hj
  split at hj
  · split at hj
    · cases hj; assumption
    · cases hj
  · cases hj
theorem zTd_K {fl : Nat → Nat} : ∀ (d i : Nat) (st : List Nat) (lk : List (Option Nat)) (l : List (Option Nat)), (∀ o ∈ lk, ∀ j, o = some j → j < i) → zTd fl d i st lk = some l → ∀ o ∈ l, ∀ j, o = some j → j < i + d
  | 0, i, st, lk, l, h, hz => by
    unfold zTd at hz
    split at hz
    · cases hz; exact h
    · cases hz
  | d + 1, i, st, lk, l, h, hz => by
    unfold zTd at hz
    split at hz
    · rename_i hi
      have := zTd_K d 1 _ _ l (fun o ho j hj => ?_) hz
      · subst hi
        rw [show 0 + (d + 1) = 1 + d by omega]
        exact this
      · rcases List.mem_append.mp ho with q | q
        · have := h o q j hj; omega
        · simp at q; subst q; cases hj
    · split at hz
      · cases hz
      · have := zTd_K d (i + 1) _ _ l (fun o ho j hj => ?_) hz
        · rw [show i + (d + 1) = i + 1 + d by omega]
          exact this
        · rcases List.mem_append.mp ho with q | q
          · rcases List.mem_or_eq_of_mem_set q with q | q
            · have := h o q j hj; omega
            · subst q; cases hj; omega
          · simp at q; subst q; cases hj
theorem zStart_K {F v k r : Nat} (hk : k ≤ 5) (h3 : F = 3 → 1 ≤ k) {S : zS} (h : zStart F v k r = some S) : zK S ∧ S.1 = k := by
  unfold zStart at h
  split at h
  · cases hz : zTrc k r with
    | none => rw [hz] at h; cases h
    | some l =>
      rw [hz] at h
      cases h
      refine ⟨⟨by show k ≤ 24; omega, fun j hj q hq => ?_, fun w hw q hq => zHv_K w q hq⟩, rfl⟩
      have hm : zLf l j = some q := hq
      unfold zLf at hm
      rw [List.getD_eq_getElem?_getD] at hm
      cases hl : l[j]? with
      | none => rw [hl] at hm; cases hm
      | some o =>
        rw [hl] at hm
        have := zTd_K k 0 [] [] l (fun o ho => absurd ho List.not_mem_nil) hz o (List.mem_of_getElem? hl) q hm
        show q < k
        omega
  · split at h
    · cases h
      refine ⟨⟨by show k ≤ 24; omega, fun j hj q hq => ?_, fun w hw q hq => zHv_K w q hq⟩, rfl⟩
      have hm : zLk F k j = some q := hq
      have hj : j < 2 * k := hj
      show q < k
      unfold zLk at hm
      split at hm
      · split at hm
        · cases hm; assumption
        · split at hm
          · cases hm; have := h3 (by assumption); omega
          · cases hm
      · split at hm
        · cases hm; omega
        · cases hm
    · cases h
section ZA
variable {L : Nat} {M : za_M} {Q : Int32 → za_M → Prop}
set_option maxHeartbeats 2000000 in
theorem s70 {p : Nat} {pr : Nat → zQ} (hk : zPK p pr) (hp : zPC M p pr) {S0 : zS} (hS0 : zC M 14 S0) (hK0 : zK S0) {e A : Nat} {ke : Bool} (he : e < 8) (hA : A ≤ 6) : zT L 70 0 [.ref 0, .int (nI e), .int (nI A), .int (zB (ke = true)), .null] [] M (fun r M' => r = nI (zTry p pr e A ke S0).1 ∧ M' 1 5 = nI (zTry p pr e A ke S0).2.1 ∧ M' 1 6 = zE (zTry p pr e A ke S0).2.2 ∧ M' 1 4 = nI p ∧ ∀ c, c ≠ 1 → (c < 20 ∨ 26 ≤ c) → M' c = M c) := by
  have H20 : za_H 20 := Or.inr (Or.inr rfl)
  have H14 : za_H 14 := Or.inr (Or.inl rfl)
  simp only [q70_0, q70_1, q70_4, q70_5, q70_8, H20]
  refine zT_mono (s2 H20 H14 (by decide) hS0 hK0) ?_
  rintro r1 M1 ⟨a1, b1⟩
  have hp1 : zPC M1 p pr := by
    refine ⟨by rw [b1 1 (by omega)]; exact hp.1, fun j hj => ?_⟩
    rw [b1 2 (by omega), b1 3 (by omega), b1 4 (by omega), b1 5 (by omega)]
    exact hp.2 j hj
  simp only [q70_11, q70_12, q70_15, q70_16, q70_19]
  refine zT_mono (s34 H20 hk hp1 a1 hK0) ?_
  obtain ⟨z1, z2, z3, z4⟩ := zRun_K hk 500 S0 0 0 none hK0 (fun j hj => by cases hj)
  have ht2 : (zTry p pr e A ke S0).2.1 = (zRun p pr 500 S0 0 0 none).2.2.1 := rfl
  have ht3 : (zTry p pr e A ke S0).2.2 = (zRun p pr 500 S0 0 0 none).2.2.2 := rfl
  have ht1 : (zTry p pr e A ke S0).1 = (if (zRun p pr 500 S0 0 0 none).1 = 0 then (if zForm (zRun p pr 500 S0 0 0 none).2.1 ((zRun p pr 500 S0 0 0 none).2.1.2.2.2 e) A = true then (if (ke = true ∧ ¬ zKeep (zRun p pr 500 S0 0 0 none).2.1.2.1 (zRch (zRun p pr 500 S0 0 0 none).2.1 ((zRun p pr 500 S0 0 0 none).2.1.2.2.2 e) (if A = 4 then 2 else 1)) S0.2.1 S0.1 = true) then 5 else 0) else 4) else (zRun p pr 500 S0 0 0 none).1) := rfl
  rw [ht1, ht2, ht3]
  generalize zRun p pr 500 S0 0 0 none = R at *
  obtain ⟨o, S', d, la⟩ := R
  dsimp only at z1 z2 z3 z4 ⊢
  rintro r2 M2 ⟨rfl, a2, b2, c2, d2, e2⟩
  have hf2 : ∀ c, c ≠ 1 → (c < 20 ∨ 26 ≤ c) → M2 c = M c := fun c h1 h2 => by rw [e2 c h1 (by omega), b1 c (by omega)]
  have e7 : nI o = 0 ↔ o = 0 := by rw [← nI_0]; exact nI_eq (by omega) (by omega)
  simp only [q70_22, q70_24]
  rw [q70_26]
  by_cases ho : o = 0
  · rw [if_pos (e7.mpr ho), if_pos ho]
    simp only [q70_32, q70_33, q70_36, q70_37, q70_38, H20]
    refine zT_mono (s16 H20 a2 z1 he hA) ?_
    rintro r3 M3 ⟨rfl, b3⟩
    have hf3 : ∀ c, c ≠ 1 → (c < 20 ∨ 26 ≤ c) → M3 c = M c := fun c h1 h2 => by rw [b3 c (by omega) (by omega), hf2 c h1 h2]
    have g5 : M3 1 5 = nI d := by rw [b3 1 (by omega) (by omega)]; exact b2
    have g6 : M3 1 6 = zE la := by rw [b3 1 (by omega) (by omega)]; exact c2
    have g4 : M3 1 4 = nI p := by rw [b3 1 (by omega) (by omega)]; exact d2
    rw [q70_41]
    by_cases hf : zForm S' (S'.2.2.2 e) A = true
    · rw [zB_t hf, if_neg (by decide), if_pos hf, q70_46, q70_47]
      by_cases hke : ¬ ke = true
      · rw [zB_f hke, if_pos (by decide), if_neg (fun q => hke q.1)]
        simp only [q70_77, q70_78]
        exact ⟨True.intro, g5, g6, g4, hf3⟩
      · have hke : ke = true := Decidable.of_not_not hke
        rw [zB_t hke, if_neg (by decide)]
        have hS3 : zC M3 20 S' := zV_cg a2 (b3 20 (by omega) (by omega)) (b3 21 (by omega) (by omega)) (b3 22 (by omega) (by omega)) (b3 23 (by omega) (by omega))
        have hS03 : zC M3 14 S0 := zV_cg hS0 (hf3 14 (by omega) (by omega)) (hf3 15 (by omega) (by omega)) (hf3 16 (by omega) (by omega)) (hf3 17 (by omega) (by omega))
        have key : ∀ (g : Nat) (bo : Int32), g = (if A = 4 then 2 else 1) → ((bo = nI 0 ∧ g = 1) ∨ (bo = nI 1 ∧ g = 2)) → zT L 70 65 [.ref 0, .int (nI e), .int (nI A), .int (nI 1), .int (nI o)] [.int bo, .int (nI e), .ref 20] M3 (fun r M' => r = nI (if (ke = true ∧ ¬ zKeep S'.2.1 (zRch S' (S'.2.2.2 e) (if A = 4 then 2 else 1)) S0.2.1 S0.1 = true) then 5 else 0) ∧ M' 1 5 = nI d ∧ M' 1 6 = zE la ∧ M' 1 4 = nI p ∧ ∀ c, c ≠ 1 → (c < 20 ∨ 26 ≤ c) → M' c = M c) := by
          intro g bo hg hb
          rw [← hg]
          simp only [q70_65, q70_66, q70_69, H20]
          refine zT_mono (s23 H20 H14 (by decide) hS3 z1 hS03 hK0 he hb) ?_
          rintro r4 M4 ⟨rfl, b4⟩
          have k5 : M4 1 5 = nI d := by rw [b4 1 (by omega) (by omega)]; exact g5
          have k6 : M4 1 6 = zE la := by rw [b4 1 (by omega) (by omega)]; exact g6
          have k4 : M4 1 4 = nI p := by rw [b4 1 (by omega) (by omega)]; exact g4
          have kf : ∀ c, c ≠ 1 → (c < 20 ∨ 26 ≤ c) → M4 c = M c := fun c h1 h2 => by rw [b4 c (by omega) (by omega), hf3 c h1 h2]
          rw [q70_72]
          by_cases hkp : zKeep S'.2.1 (zRch S' (S'.2.2.2 e) g) S0.2.1 S0.1 = true
          · rw [zB_t hkp, if_neg (by decide), if_neg (fun q => q.2 hkp)]
            simp only [q70_77, q70_78]
            exact ⟨True.intro, k5, k6, k4, kf⟩
          · rw [zB_f hkp, if_pos (by decide), if_pos ⟨hke, hkp⟩]
            simp only [q70_75, q70_76]
            exact ⟨True.intro, k5, k6, k4, kf⟩
        simp only [q70_50, q70_51, q70_54, q70_55, q70_56]
        rw [q70_57]
        by_cases hA4 : A = 4
        · rw [if_pos (by rw [hA4]), q70_60, q70_61]
          exact key 2 (nI 1) (by rw [if_pos hA4]) (Or.inr ⟨rfl, rfl⟩)
        · rw [if_neg (fun q => hA4 ((nI_eq (by omega) (by omega)).mp q)), q70_64]
          exact key 1 (nI 0) (by rw [if_neg hA4]) (Or.inl ⟨rfl, rfl⟩)
    · rw [zB_f hf, if_pos (by decide), if_neg hf]
      simp only [q70_44, q70_45]
      exact ⟨True.intro, g5, g6, g4, hf3⟩
  · rw [if_neg (fun q => ho (e7.mp q)), if_neg ho]
    simp only [q70_29, q70_31]
    exact ⟨True.intro, b2, c2, d2, hf2⟩
/-- what stands between two starts of a claim -/
def zCI (p : Nat) (M0 M : za_M) (d : Nat) (la : Option Nat) : Prop := M 1 4 = nI p ∧ (∀ c, 2 ≤ c → c < 10 → M c = M0 c) ∧ (∀ c, 26 ≤ c → M c = M0 c) ∧ M 0 5 = nI 0 ∧ M 1 5 = nI d ∧ M 1 6 = zE la
/-- how a claim of the class ends -/
def zCE (p : Nat) (M0 : za_M) (x : (Nat × Nat × Option Nat) ⊕ (Nat × zS × Nat × Nat × Option Nat)) (r : Int32) (M : za_M) : Prop := match x with
  | .inl (m, d, la) => r = nI m ∧ zCI p M0 M d la
  | .inr (m, S, c, d, la) => r = (-10) - nI m ∧ zC M 6 S ∧ M 1 4 = nI p ∧ (∀ c, 2 ≤ c → c < 6 → M c = M0 c) ∧ (∀ c, 26 ≤ c → M c = M0 c) ∧ M 0 5 = nI c ∧ M 1 5 = nI d ∧ M 1 6 = zE la
theorem zTry_le {p : Nat} {pr : Nat → zQ} (hk : zPK p pr) {e A : Nat} {ke : Bool} {S0 : zS} (hK0 : zK S0) : (zTry p pr e A ke S0).1 ≤ 5 := by
  obtain ⟨z1, z2, z3, z4⟩ := zRun_K hk 500 S0 0 0 none hK0 (fun j hj => by cases hj)
  unfold zTry
  dsimp only
  by_cases h1 : (zRun p pr 500 S0 0 0 none).1 = 0
  · rw [if_pos h1]
    by_cases h2 : zForm (zRun p pr 500 S0 0 0 none).2.1 ((zRun p pr 500 S0 0 0 none).2.1.2.2.2 e) A = true
    · rw [if_pos h2]
      by_cases h3 : (ke = true ∧ ¬ zKeep (zRun p pr 500 S0 0 0 none).2.1.2.1 (zRch (zRun p pr 500 S0 0 0 none).2.1 ((zRun p pr 500 S0 0 0 none).2.1.2.2.2 e) (if A = 4 then 2 else 1)) S0.2.1 S0.1 = true)
      · rw [if_pos h3]; omega
      · rw [if_neg h3]; omega
    · rw [if_neg h2]; omega
  · rw [if_neg h1]; omega
set_option maxHeartbeats 2000000 in
theorem s67_row {M0 : za_M} {p : Nat} {pr : Nat → zQ} (hk : zPK p pr) (hp : zPC M0 p pr) {v F n e A k : Nat} {ke : Bool} (hv : v < 8) (hF : 1 ≤ F ∧ F ≤ 5) (he : e < 8) (hA : A ≤ 6) (hk5 : k ≤ 5) (h3 : F = 3 → 1 ≤ k) : ∀ (dd r : Nat), dd + r = (if F = 4 then 4 else 3) ^ k → ∀ (m d : Nat) (la : Option Nat) (M : za_M), zCI p M0 M d la →
    (∀ m' d' la' M', zLoop (zTry p pr e A ke) (zSx F v k dd r) m d la = .inl (m', d', la') → zCI p M0 M' d' la' → zT L 67 151 [.ref 0, .int (nI v), .int (nI F), .int (nI n), .int (nI e), .int (nI A), .int (zB (ke = true)), .int (nI m'), .int (nI k), .int (nI ((if F = 4 then 4 else 3) ^ k)), .int (nI ((if F = 4 then 4 else 3) ^ k))] [] M' Q) →
    (∀ x r' M', zLoop (zTry p pr e A ke) (zSx F v k dd r) m d la = .inr x → zCE p M0 (.inr x) r' M' → Q r' M') →
    zT L 67 74 [.ref 0, .int (nI v), .int (nI F), .int (nI n), .int (nI e), .int (nI A), .int (zB (ke = true)), .int (nI m), .int (nI k), .int (nI ((if F = 4 then 4 else 3) ^ k)), .int (nI r)] [] M Q := by
  have H14 : za_H 14 := Or.inr (Or.inl rfl)
  have H6 : za_H 6 := Or.inl rfl
  have hpw : (if F = 4 then 4 else 3) ^ k ≤ 1024 := by
    split
    · exact zPw4 hk5
    · have := zPw hk5; omega
  intro dd
  induction dd with
  | zero =>
    intro r hd m d la M hI k1 k2
    have hr : r = (if F = 4 then 4 else 3) ^ k := by omega
    rw [← hr] at k1 ⊢
    rw [q67_74, q67_76, q67_78, if_pos (Int32.le_refl _)]
    exact k1 m d la M rfl hI
  | succ dd ih =>
    intro r hd m d la M hI k1 k2
    have e1 : ¬ nI ((if F = 4 then 4 else 3) ^ k) ≤ nI r := nI_ge (by omega) (by omega)
    rw [q67_74, q67_76, q67_78, if_neg e1]
    simp only [q67_81, q67_82, q67_85, q67_86, q67_89, q67_90, q67_91, q67_93, q67_95]
    refine zT_mono (s47 H14 hF hv hk5 h3 (by omega)) ?_
    rintro r1 M1 ⟨rfl, a1, b1⟩
    obtain ⟨i1, i2, i3, i4, i5, i6⟩ := hI
    have hI1 : zCI p M0 M1 d la := by
      refine ⟨by rw [b1 1 (by omega) (by omega)]; exact i1, fun c c1 c2 => by rw [b1 c (by omega) (by omega)]; exact i2 c c1 c2, fun c c1 => by rw [b1 c (by omega) (by omega)]; exact i3 c c1, by rw [b1 0 (by omega) (by omega)]; exact i4, by rw [b1 1 (by omega) (by omega)]; exact i5, by rw [b1 1 (by omega) (by omega)]; exact i6⟩
    rw [q67_98]
    cases hs : zStart F v k r with
    | none =>
      have hz : zSx F v k (dd + 1) r = zSx F v k dd (r + 1) := by
        conv => lhs; unfold zSx
        rw [hs]
      rw [hz] at k1 k2
      rw [zB_f (by simp), if_pos (by decide)]
      simp only [q67_101, q67_145, q67_148, nI_add]
      exact ih (r + 1) (by omega) m d la M1 hI1 k1 k2
    | some S =>
      have hz : zSx F v k (dd + 1) r = S :: zSx F v k dd (r + 1) := by
        conv => lhs; unfold zSx
        rw [hs]
      rw [hz] at k1 k2
      obtain ⟨hKS, hSk⟩ := zStart_K hk5 h3 hs
      have hS1 := a1 S hs
      have hp1 : zPC M1 p pr := by
        refine ⟨hI1.1, fun j hj => ?_⟩
        rw [hI1.2.1 2 (by omega) (by omega), hI1.2.1 3 (by omega) (by omega), hI1.2.1 4 (by omega) (by omega), hI1.2.1 5 (by omega) (by omega)]
        exact hp.2 j hj
      rw [zB_t (by simp), if_neg (by decide)]
      simp only [q67_104, q67_105, q67_106, q67_108, q67_110, q67_112]
      refine zT_mono (s70 hk hp1 hS1 hKS he hA) ?_
      have hle := zTry_le (e := e) (A := A) (ke := ke) hk hKS
      rintro r2 M2 ⟨rfl, a2, b2, c2, d2⟩
      simp only [q67_115, q67_118, q67_119, za_up_same]
      rw [q67_122]
      have e7 : nI (zTry p pr e A ke S).1 = 0 ↔ (zTry p pr e A ke S).1 = 0 := by rw [← nI_0]; exact nI_eq (by omega) (by omega)
      by_cases ht : (zTry p pr e A ke S).1 = 0
      · have hl : zLoop (zTry p pr e A ke) (S :: zSx F v k dd (r + 1)) m d la = zLoop (zTry p pr e A ke) (zSx F v k dd (r + 1)) (m + 1) (zTry p pr e A ke S).2.1 (zTry p pr e A ke S).2.2 := by
          conv => lhs; unfold zLoop
          rw [if_pos ht]
        rw [hl] at k1 k2
        rw [if_pos (e7.mpr ht)]
        simp only [q67_142, q67_145, q67_148, nI_add]
        refine ih (r + 1) (by omega) (m + 1) _ _ _ ?_ k1 k2
        refine ⟨by rw [za_up_oc (by decide)]; exact c2, fun c c1 c2' => by rw [za_up_ne (by omega), d2 c (by omega) (by omega)]; exact hI1.2.1 c c1 c2', fun c c1 => by rw [za_up_ne (by omega), d2 c (by omega) (by omega)]; exact hI1.2.2.1 c c1, by rw [za_up_same, ht], by rw [za_up_oc (by decide)]; exact a2, by rw [za_up_oc (by decide)]; exact b2⟩
      · have hl : zLoop (zTry p pr e A ke) (S :: zSx F v k dd (r + 1)) m d la = .inr (m, S, (zTry p pr e A ke S).1, (zTry p pr e A ke S).2.1, (zTry p pr e A ke S).2.2) := by
          conv => lhs; unfold zLoop
          rw [if_neg ht]
        rw [if_neg (fun q => ht (e7.mp q))]
        simp only [q67_125, q67_126, q67_129, q67_130, q67_133, H6]
        have hS2 : zC (za_up M2 0 5 (nI (zTry p pr e A ke S).1)) 14 S := zV_cg hS1 (by rw [za_up_ne (by decide), d2 14 (by omega) (by omega)]) (by rw [za_up_ne (by decide), d2 15 (by omega) (by omega)]) (by rw [za_up_ne (by decide), d2 16 (by omega) (by omega)]) (by rw [za_up_ne (by decide), d2 17 (by omega) (by omega)])
        refine zT_mono (s2 H6 H14 (by decide) hS2 hKS) ?_
        rintro r3 M3 ⟨a3, b3⟩
        simp only [q67_136, q67_138, q67_140, q67_141]
        refine k2 _ _ _ hl ⟨rfl, a3, ?_, fun c c1 c2' => ?_, fun c c1 => ?_, ?_, ?_, ?_⟩
        · rw [b3 1 (by omega), za_up_oc (by decide)]; exact c2
        · rw [b3 c (by omega), za_up_ne (by omega), d2 c (by omega) (by omega)]; exact hI1.2.1 c c1 (by omega)
        · rw [b3 c (by omega), za_up_ne (by omega), d2 c (by omega) (by omega)]; exact hI1.2.2.1 c c1
        · rw [b3 0 (by omega), za_up_same]
        · rw [b3 1 (by omega), za_up_oc (by decide)]; exact a2
        · rw [b3 1 (by omega), za_up_oc (by decide)]; exact b2
theorem s67_size {M0 : za_M} {p : Nat} {pr : Nat → zQ} (hk : zPK p pr) (hp : zPC M0 p pr) {v F n e A : Nat} {ke : Bool} (hv : v < 8) (hF : 1 ≤ F ∧ F ≤ 5) (he : e < 8) (hA : A ≤ 6) (hn : n ≤ 5) : ∀ (dd k : Nat), dd + k = n + 1 → (F = 3 → 1 ≤ k) → ∀ (m d : Nat) (la : Option Nat) (M : za_M) (l9 l10 : Value), zCI p M0 M d la →
    zT L 67 57 [.ref 0, .int (nI v), .int (nI F), .int (nI n), .int (nI e), .int (nI A), .int (zB (ke = true)), .int (nI m), .int (nI k), l9, l10] [] M (zCE p M0 (zLoop (zTry p pr e A ke) (zAx F v dd k) m d la)) := by
  intro dd
  induction dd with
  | zero =>
    intro k hd h3 m d la M l9 l10 hI
    have e1 : nI n < nI k := nI_lt (by omega) (by omega)
    rw [q67_57, q67_59, q67_60, if_pos e1]
    simp only [q67_157, q67_159]
    exact ⟨rfl, hI⟩
  | succ dd ih =>
    intro k hd h3 m d la M l9 l10 hI
    have e1 : ¬ nI n < nI k := nI_nlt (by omega) (by omega)
    have hz : zAx F v (dd + 1) k = zSx F v k ((if F = 4 then 4 else 3) ^ k) 0 ++ zAx F v dd (k + 1) := rfl
    rw [hz, zLoop_app, q67_57, q67_59, q67_60, if_neg e1]
    simp only [q67_63, q67_64, q67_66, q67_69, q67_71, q67_72, s46 (show F ≤ 6 by omega) (show k ≤ 5 by omega)]
    refine s67_row hk hp hv hF he hA (by omega) h3 ((if F = 4 then 4 else 3) ^ k) 0 rfl m d la M hI (fun m' d' la' M' hl hI' => ?_) (fun x r' M' hl hE => ?_)
    · rw [hl]
      simp only [q67_151, q67_154, nI_add]
      exact ih (k + 1) (by omega) (fun _ => by omega) m' d' la' M' _ _ hI'
    · rw [hl]
      exact hE
end ZA
