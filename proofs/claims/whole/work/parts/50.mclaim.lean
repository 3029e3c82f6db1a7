/-! the model's claim -/
theorem zSx_len {F v k : Nat} : ∀ d r : Nat, (zSx F v k d r).length ≤ d
  | 0, _ => Nat.le_refl _
  | d + 1, r => by
    have := zSx_len (F := F) (v := v) (k := k) d (r + 1)
    unfold zSx
    split
    · omega
    · simp only [List.length_cons]; omega
theorem zSx_small {F v k : Nat} (hk : k ≤ 5) : (zSx F v k ((if F = 4 then 4 else 3) ^ k) 0).length ≤ 243 := by
  by_cases h : F = 4
  · subst h
    rw [if_pos rfl, zSx_tree, List.length_map]
    have hl : zTx k (4 ^ k) 0 = zTl k := rfl
    rw [hl]
    by_cases h0 : k = 0
    · subst h0; decide
    · have := (zMk_ok (by omega) hk).2
      omega
  · rw [if_neg h]
    have h1 := zSx_len (F := F) (v := v) (k := k) (3 ^ k) 0
    have h2 := zPw hk
    omega
/-- what stands between two starts of a claim of the model -/
def zMI (M0 M : za_M) (d : Nat) (la : Option Nat) : Prop := M 26 4 = M0 26 4 ∧ (∀ c, 30 ≤ c → c < 34 → M c = M0 c) ∧ M 26 19 = M0 26 0 ∧ (∀ j, j < 48 → M 39 j = M0 27 j) ∧ (∀ j, j < 24 → M 40 j = M0 28 j) ∧ (∀ j, j < 8 → M 41 j = M0 29 j) ∧ M 26 11 = nI 0 ∧ M 26 9 = nI d ∧ M 26 10 = zE la ∧ (∀ c, c < 26 → M c = M0 c) ∧ ∀ c, 42 ≤ c → M c = M0 c
def zME (M0 : za_M) (x : (Nat × Nat × Option Nat) ⊕ (Nat × zS × Nat × Nat × Option Nat)) (r : Int32) (M : za_M) : Prop := match x with
  | .inl (m, d, la) => r = nI m ∧ M 26 0 = M0 26 0 ∧ (∀ j, j < 48 → M 27 j = M0 27 j) ∧ (∀ j, j < 24 → M 28 j = M0 28 j) ∧ (∀ j, j < 8 → M 29 j = M0 29 j) ∧ M 26 4 = M0 26 4 ∧ (∀ c, 30 ≤ c → c < 34 → M c = M0 c) ∧ M 26 11 = nI 0 ∧ M 26 9 = nI d ∧ M 26 10 = zE la ∧ (∀ c, c < 26 → M c = M0 c) ∧ ∀ c, 42 ≤ c → M c = M0 c
  | .inr (m, S, c, d, la) => r = (-10) - nI m ∧ zMo M S ∧ M 26 4 = M0 26 4 ∧ (∀ c, 30 ≤ c → c < 34 → M c = M0 c) ∧ M 26 11 = nI c ∧ M 26 9 = nI d ∧ M 26 10 = zE la ∧ (∀ c, c < 26 → M c = M0 c) ∧ ∀ c, 42 ≤ c → M c = M0 c
section ZA
variable {L : Nat} {M : za_M} {Q : Int32 → za_M → Prop}
set_option maxHeartbeats 4000000 in
theorem s106_row {M0 : za_M} {p : Nat} {pr : Nat → zQ} (hk : zPK p pr) (hp : zPM M0 p pr) {v F n e A k : Nat} {ke : Bool} (hv : v < 8) (hF : 1 ≤ F ∧ F ≤ 5) (he : e < 8) (hA : A ≤ 6) (hk5 : k ≤ 5) (h3 : F = 3 → 1 ≤ k) {l : List zS} (hl : l = zSx F v k ((if F = 4 then 4 else 3) ^ k) 0) (hlK : ∀ S ∈ l, zK S) : ∀ (suf : List zS) (i : Nat), l.drop i = suf → i ≤ l.length → ∀ (m d : Nat) (la : Option Nat) (M : za_M) (l10 l11 : Value), zMI M0 M d la → (F = 4 → 1 ≤ k → M 26 16 = nI (zTl k).length ∧ zTA k M (zTl k)) →
    (∀ m' d' la' M' (l9 l10 l11 : Value), zLoop (zTry p pr e A ke) suf m d la = .inl (m', d', la') → zMI M0 M' d' la' → zT L 106 201 [.ref 26, .int (nI v), .int (nI F), .int (nI n), .int (nI e), .int (nI A), .int (zB (ke = true)), .int (nI m'), .int (nI k), l9, l10, l11] [] M' Q) →
    (∀ x r' M', zLoop (zTry p pr e A ke) suf m d la = .inr x → zME M0 (.inr x) r' M' → Q r' M') →
    zT L 106 95 [.ref 26, .int (nI v), .int (nI F), .int (nI n), .int (nI e), .int (nI A), .int (zB (ke = true)), .int (nI m), .int (nI k), .int (nI i), l10, l11] [] M Q := by
  have hsmall := zSx_small (F := F) (v := v) hk5
  rw [← hl] at hsmall
  intro suf
  induction suf with
  | nil =>
    intro i hd hi m d la M l10 l11 hI hT k1 k2
    have hil : l.length ≤ i := List.drop_eq_nil_iff.mp hd
    simp only [q106_95, q106_96, q106_97, q106_98, q106_100, q106_102]
    refine zT_mono (s101 hv hF hk5 (show i < 1000 by omega) hT) ?_
    intro r M1 hS
    rw [← hl, List.getElem?_eq_none hil] at hS
    obtain ⟨rfl, b1⟩ := hS
    obtain ⟨i1, i2, i3, i4, i5, i6, i7, i8, i9, i10, i11⟩ := hI
    rw [q106_105, if_pos (by decide)]
    refine k1 m d la M1 _ _ _ rfl ?_
    refine ⟨by rw [b1 26 (by decide)]; exact i1, fun c c1 c2 => by rw [b1 c (by omega)]; exact i2 c c1 c2, by rw [b1 26 (by decide)]; exact i3, fun j hj => by rw [b1 39 (by decide)]; exact i4 j hj, fun j hj => by rw [b1 40 (by decide)]; exact i5 j hj, fun j hj => by rw [b1 41 (by decide)]; exact i6 j hj, by rw [b1 26 (by decide)]; exact i7, by rw [b1 26 (by decide)]; exact i8, by rw [b1 26 (by decide)]; exact i9, fun c c1 => by rw [b1 c (by omega)]; exact i10 c c1, fun c c1 => by rw [b1 c (by omega)]; exact i11 c c1⟩
  | cons S suf ih =>
    intro i hd hi m d la M l10 l11 hI hT k1 k2
    have hSi : l[i]? = some S := by rw [← List.head?_drop, hd]; rfl
    have hd' : l.drop (i + 1) = suf := by rw [← List.drop_drop, hd]; rfl
    have hil := (List.getElem?_eq_some_iff.mp hSi).1
    have hKS := hlK S (List.mem_of_getElem? hSi)
    obtain ⟨i1, i2, i3, i4, i5, i6, i7, i8, i9, i10, i11⟩ := hI
    simp only [q106_95, q106_96, q106_97, q106_98, q106_100, q106_102]
    refine zT_mono (s101 hv hF hk5 (show i < 1000 by omega) hT) ?_
    intro r M1 hS
    rw [← hl, hSi] at hS
    obtain ⟨rfl, s2, s3, s4, s5, s6⟩ := hS
    rw [q106_105, if_neg (by decide)]
    have hp1 : zPM M1 p pr := by
      refine ⟨by rw [s5 4 (by decide), i1]; exact hp.1, fun j hj => ?_⟩
      rw [s6 30 (by decide) (by decide) (by decide) (by decide) (by decide), s6 31 (by decide) (by decide) (by decide) (by decide) (by decide), s6 32 (by decide) (by decide) (by decide) (by decide) (by decide), s6 33 (by decide) (by decide) (by decide) (by decide) (by decide), i2 30 (by omega) (by omega), i2 31 (by omega) (by omega), i2 32 (by omega) (by omega), i2 33 (by omega) (by omega)]
      exact hp.2 j hj
    simp only [q106_108, q106_109]
    refine zT_mono (s86 hk hp1 s2 hKS) ?_
    obtain ⟨z1, z2, z3, z4⟩ := zRun_K hk 500 S 0 0 none hKS (fun j hj => by cases hj)
    have hle := zTry_le (e := e) (A := A) (ke := ke) hk hKS
    have ht1 : (zTry p pr e A ke S).1 = (if (zRun p pr 500 S 0 0 none).1 = 0 then (if zForm (zRun p pr 500 S 0 0 none).2.1 ((zRun p pr 500 S 0 0 none).2.1.2.2.2 e) A = true then (if (ke = true ∧ ¬ zKeep (zRun p pr 500 S 0 0 none).2.1.2.1 (zRch (zRun p pr 500 S 0 0 none).2.1 ((zRun p pr 500 S 0 0 none).2.1.2.2.2 e) (if A = 4 then 2 else 1)) S.2.1 S.1 = true) then 5 else 0) else 4) else (zRun p pr 500 S 0 0 none).1) := rfl
    have ht2 : (zTry p pr e A ke S).2.1 = (zRun p pr 500 S 0 0 none).2.2.1 := rfl
    have ht3 : (zTry p pr e A ke S).2.2 = (zRun p pr 500 S 0 0 none).2.2.2 := rfl
    rw [s3] at ht1
    have hstep : ∀ (M2 : za_M) (l10 : Value), zHR M1 M2 ∨ True → (∀ f, f ≠ 0 → f ≠ 9 → f ≠ 10 → f ≠ 14 → M2 26 f = M1 26 f) → M2 26 9 = nI (zTry p pr e A ke S).2.1 → M2 26 10 = zE (zTry p pr e A ke S).2.2 → (∀ c, c ≠ 26 → c ≠ 27 → c ≠ 28 → c ≠ 29 → c ≠ 34 → c ≠ 35 → M2 c = M1 c) → zT L 106 164 [.ref 26, .int (nI v), .int (nI F), .int (nI n), .int (nI e), .int (nI A), .int (zB (ke = true)), .int (nI m), .int (nI k), .int (nI i), l10, l11] [.int (nI (zTry p pr e A ke S).1), .ref 26] M2 Q := by
      intro M2 l10 _ hf h9 h10 hc
      have f26 : ∀ f, f ≠ 0 → f ≠ 9 → f ≠ 10 → f ≠ 14 → M2 26 f = M 26 f := fun f a b c d => by rw [hf f a b c d, s5 f a]
      have fc : ∀ c, c ≠ 26 → c ≠ 27 → c ≠ 28 → c ≠ 29 → c ≠ 34 → c ≠ 35 → c ≠ 38 → M2 c = M c := fun c a b c' d' e' f' g' => by rw [hc c a b c' d' e' f', s6 c a b c' d' g']
      simp only [q106_164, q106_167, q106_168, za_up_same]
      rw [q106_171]
      have e7 : nI (zTry p pr e A ke S).1 = 0 ↔ (zTry p pr e A ke S).1 = 0 := by rw [← nI_0]; exact nI_eq (by omega) (by omega)
      have hT2 : F = 4 → 1 ≤ k → za_up M2 26 11 (nI (zTry p pr e A ke S).1) 26 16 = nI (zTl k).length ∧ zTA k (za_up M2 26 11 (nI (zTry p pr e A ke S).1)) (zTl k) := by
        intro q1 q2
        obtain ⟨t1, t2⟩ := hT q1 q2
        refine ⟨by rw [za_up_oi (by decide), f26 16 (by decide) (by decide) (by decide) (by decide)]; exact t1, fun a b hab j hj => ?_⟩
        rw [za_up_oc (by decide), fc 36 (by decide) (by decide) (by decide) (by decide) (by decide) (by decide) (by decide)]
        exact t2 a b hab j hj
      by_cases ht : (zTry p pr e A ke S).1 = 0
      · have hlp : zLoop (zTry p pr e A ke) (S :: suf) m d la = zLoop (zTry p pr e A ke) suf (m + 1) (zTry p pr e A ke S).2.1 (zTry p pr e A ke S).2.2 := by
          conv => lhs; unfold zLoop
          rw [if_pos ht]
        rw [hlp] at k1 k2
        rw [if_pos (e7.mpr ht)]
        simp only [q106_192, q106_195, q106_198, nI_add]
        refine ih (i + 1) hd' hil (m + 1) _ _ _ _ _ ?_ hT2 k1 k2
        refine ⟨by rw [za_up_oi (by decide), f26 4 (by decide) (by decide) (by decide) (by decide)]; exact i1, fun c c1 c2 => by rw [za_up_ne (by omega), fc c (by omega) (by omega) (by omega) (by omega) (by omega) (by omega) (by omega)]; exact i2 c c1 c2, by rw [za_up_oi (by decide), f26 19 (by decide) (by decide) (by decide) (by decide)]; exact i3, fun j hj => by rw [za_up_oc (by decide), fc 39 (by decide) (by decide) (by decide) (by decide) (by decide) (by decide) (by decide)]; exact i4 j hj, fun j hj => by rw [za_up_oc (by decide), fc 40 (by decide) (by decide) (by decide) (by decide) (by decide) (by decide) (by decide)]; exact i5 j hj, fun j hj => by rw [za_up_oc (by decide), fc 41 (by decide) (by decide) (by decide) (by decide) (by decide) (by decide) (by decide)]; exact i6 j hj, by rw [za_up_same, ht], by rw [za_up_oi (by decide)]; exact h9, by rw [za_up_oi (by decide)]; exact h10, fun c c1 => by rw [za_up_ne (by omega), fc c (by omega) (by omega) (by omega) (by omega) (by omega) (by omega) (by omega)]; exact i10 c c1, fun c c1 => by rw [za_up_ne (by omega), fc c (by omega) (by omega) (by omega) (by omega) (by omega) (by omega) (by omega)]; exact i11 c c1⟩
      · have hlp : zLoop (zTry p pr e A ke) (S :: suf) m d la = .inr (m, S, (zTry p pr e A ke S).1, (zTry p pr e A ke S).2.1, (zTry p pr e A ke S).2.2) := by
          conv => lhs; unfold zLoop
          rw [if_neg ht]
        rw [if_neg (fun q => ht (e7.mp q))]
        simp only [q106_174, q106_175, q106_176, q106_177, q106_179, q106_181]
        refine zT_mono (s101 hv hF hk5 (show i < 1000 by omega) hT2) ?_
        intro r3 M3 hS3
        rw [← hl, hSi] at hS3
        obtain ⟨rfl, u2, u3, u4, u5, u6⟩ := hS3
        simp only [q106_184, q106_186, q106_188, q106_190, q106_191]
        refine k2 _ _ _ hlp ⟨rfl, u2, ?_, fun c c1 c2 => ?_, ?_, ?_, ?_, fun c c1 => ?_, fun c c1 => ?_⟩
        · rw [u5 4 (by decide), za_up_oi (by decide), f26 4 (by decide) (by decide) (by decide) (by decide)]; exact i1
        · rw [u6 c (by omega) (by omega) (by omega) (by omega) (by omega), za_up_ne (by omega), fc c (by omega) (by omega) (by omega) (by omega) (by omega) (by omega) (by omega)]; exact i2 c c1 c2
        · rw [u5 11 (by decide), za_up_same]
        · rw [u5 9 (by decide), za_up_oi (by decide)]; exact h9
        · rw [u5 10 (by decide), za_up_oi (by decide)]; exact h10
        · rw [u6 c (by omega) (by omega) (by omega) (by omega) (by omega), za_up_ne (by omega), fc c (by omega) (by omega) (by omega) (by omega) (by omega) (by omega) (by omega)]; exact i10 c c1
        · rw [u6 c (by omega) (by omega) (by omega) (by omega) (by omega), za_up_ne (by omega), fc c (by omega) (by omega) (by omega) (by omega) (by omega) (by omega) (by omega)]; exact i11 c c1
    rw [ht2, ht3] at hstep
    generalize zRun p pr 500 S 0 0 none = R at *
    obtain ⟨o, S', d', la'⟩ := R
    dsimp only at z1 z2 z3 z4 ht1 hstep ⊢
    rintro r2 M2 ⟨rfl, y1, y2, y3, y4, y5⟩
    have e7 : nI o = 0 ↔ o = 0 := by rw [← nI_0]; exact nI_eq (by omega) (by omega)
    have y5' : ∀ c, c ≠ 26 → c ≠ 27 → c ≠ 28 → c ≠ 29 → c ≠ 34 → c ≠ 35 → M2 c = M1 c := fun c a b c' d _ _ => y5 c a b c' d
    simp only [q106_112, q106_114, q106_115]
    rw [q106_117]
    by_cases ho : o = 0
    · rw [if_pos ho] at ht1
      rw [if_pos (e7.mpr ho)]
      simp only [q106_125, q106_126, q106_128, q106_130]
      refine zT_mono (s95 y1 z1 he hA) ?_
      rintro r3 M3 ⟨rfl, w1, w2⟩
      have w26 : ∀ f, f ≠ 0 → f ≠ 9 → f ≠ 10 → f ≠ 14 → M3 26 f = M1 26 f := fun f a b c d => by rw [w1 f d, y4 f a b c]
      have wc : ∀ c, c ≠ 26 → c ≠ 27 → c ≠ 28 → c ≠ 29 → c ≠ 34 → c ≠ 35 → M3 c = M1 c := fun c a b c' d e f => by rw [w2 c a e f, y5 c a b c' d]
      rw [q106_133]
      by_cases hf : zForm S' (S'.2.2.2 e) A = true
      · rw [if_pos hf] at ht1
        rw [zB_t hf, if_neg (by decide), q106_140, q106_142]
        by_cases hke : ¬ ke = true
        · rw [if_neg (fun q => hke q.1)] at ht1
          rw [zB_f hke, if_pos (by decide), q106_163]
          rw [ht1, zB_f hke] at hstep
          exact hstep M3 _ (Or.inr trivial) w26 (by rw [w1 9 (by decide)]; exact y2) (by rw [w1 10 (by decide)]; exact y3) wc
        · have hke : ke = true := Decidable.of_not_not hke
          rw [zB_t hke, if_neg (by decide)]
          have hS3 : zMo M3 S' := by
            refine ⟨by rw [w1 0 (by decide)]; exact y1.1, ?_, ?_, ?_⟩
            · rw [w2 28 (by decide) (by decide) (by decide)]; exact y1.2.1
            · rw [w2 27 (by decide) (by decide) (by decide)]; exact y1.2.2.1
            · rw [w2 29 (by decide) (by decide) (by decide)]; exact y1.2.2.2
          simp only [q106_145, q106_146, q106_147, q106_149, q106_151, q106_153]
          refine zT_mono (s105 (ks0 := S.2.1) hS3 z1 he hF.2 hA (fun j hj => by rw [wc 38 (by decide) (by decide) (by decide) (by decide) (by decide) (by decide)]; exact s4 j hj) hk5) ?_
          rintro r4 M4 ⟨rfl, v1, v2⟩
          have v26 : ∀ f, f ≠ 0 → f ≠ 9 → f ≠ 10 → f ≠ 14 → M4 26 f = M1 26 f := fun f a b c d => by rw [v1 f d, w26 f a b c d]
          have vc : ∀ c, c ≠ 26 → c ≠ 27 → c ≠ 28 → c ≠ 29 → c ≠ 34 → c ≠ 35 → M4 c = M1 c := fun c a b c' d e f => by rw [v2 c a e f, wc c a b c' d e f]
          have v9 : M4 26 9 = nI d' := by rw [v1 9 (by decide), w1 9 (by decide)]; exact y2
          have v10 : M4 26 10 = zE la' := by rw [v1 10 (by decide), w1 10 (by decide)]; exact y3
          rw [q106_156]
          by_cases hkp : zKeep S'.2.1 (zRch S' (S'.2.2.2 e) (if A = 4 then 2 else 1)) S.2.1 k = true
          · rw [if_neg (fun q => q.2 hkp)] at ht1
            rw [zB_t hkp, if_neg (by decide), q106_163]
            rw [ht1, zB_t hke] at hstep
            exact hstep M4 _ (Or.inr trivial) v26 v9 v10 vc
          · rw [if_pos ⟨hke, hkp⟩] at ht1
            rw [zB_f hkp, if_pos (by decide), q106_159, q106_160]
            rw [ht1, zB_t hke] at hstep
            exact hstep M4 _ (Or.inr trivial) v26 v9 v10 vc
      · rw [if_neg hf] at ht1
        rw [zB_f hf, if_pos (by decide), q106_136, q106_137]
        rw [ht1] at hstep
        exact hstep M3 _ (Or.inr trivial) w26 (by rw [w1 9 (by decide)]; exact y2) (by rw [w1 10 (by decide)]; exact y3) wc
    · rw [if_neg ho] at ht1
      rw [if_neg (fun q => ho (e7.mp q)), q106_120, q106_122]
      rw [ht1] at hstep
      exact hstep M2 _ (Or.inr trivial) (fun f a b c _ => y4 f a b c) y2 y3 y5'
theorem zSx_K {F v k : Nat} (hk : k ≤ 5) (h3 : F = 3 → 1 ≤ k) : ∀ (d r : Nat) (S : zS), S ∈ zSx F v k d r → zK S
  | 0, _, S, h => absurd h List.not_mem_nil
  | d + 1, r, S, h => by
    unfold zSx at h
    split at h
    · exact zSx_K hk h3 d (r + 1) S h
    · rename_i S' hs
      rcases List.mem_cons.mp h with q | q
      · rw [q]; exact (zStart_K hk h3 hs).1
      · exact zSx_K hk h3 d (r + 1) S q
theorem s106_size {M0 : za_M} {p : Nat} {pr : Nat → zQ} (hk : zPK p pr) (hp : zPM M0 p pr) {v F n e A : Nat} {ke : Bool} (hv : v < 8) (hF : 1 ≤ F ∧ F ≤ 5) (he : e < 8) (hA : A ≤ 6) (hn : n ≤ 5) : ∀ (dd k : Nat), dd + k = n + 1 → (F = 3 → 1 ≤ k) → ∀ (m d : Nat) (la : Option Nat) (M : za_M) (l9 l10 l11 : Value), zMI M0 M d la →
    zT L 106 70 [.ref 26, .int (nI v), .int (nI F), .int (nI n), .int (nI e), .int (nI A), .int (zB (ke = true)), .int (nI m), .int (nI k), l9, l10, l11] [] M (zME M0 (zLoop (zTry p pr e A ke) (zAx F v dd k) m d la)) := by
  intro dd
  induction dd with
  | zero =>
    intro k hd h3 m d la M l9 l10 l11 hI
    have e1 : nI n < nI k := nI_lt (by omega) (by omega)
    rw [q106_70, q106_72, q106_73, if_pos e1]
    simp only [q106_207, q106_208]
    refine zT_mono s104 ?_
    rintro r M1 ⟨a1, a2, a3, a4, a5, a6⟩
    obtain ⟨i1, i2, i3, i4, i5, i6, i7, i8, i9, i10, i11⟩ := hI
    simp only [q106_211, q106_213]
    exact ⟨rfl, a1.trans i3, fun j hj => (a2 j hj).trans (i4 j hj), fun j hj => (a3 j hj).trans (i5 j hj), fun j hj => (a4 j hj).trans (i6 j hj), (a5 4 (by decide)).trans i1, fun c c1 c2 => (a6 c (by omega) (by omega) (by omega) (by omega)).trans (i2 c c1 c2), (a5 11 (by decide)).trans i7, (a5 9 (by decide)).trans i8, (a5 10 (by decide)).trans i9, fun c c1 => (a6 c (by omega) (by omega) (by omega) (by omega)).trans (i10 c c1), fun c c1 => (a6 c (by omega) (by omega) (by omega) (by omega)).trans (i11 c c1)⟩
  | succ dd ih =>
    intro k hd h3 m d la M l9 l10 l11 hI
    have e1 : ¬ nI n < nI k := nI_nlt (by omega) (by omega)
    have hz : zAx F v (dd + 1) k = zSx F v k ((if F = 4 then 4 else 3) ^ k) 0 ++ zAx F v dd (k + 1) := rfl
    rw [hz, zLoop_app, q106_70, q106_72, q106_73, if_neg e1]
    have go : ∀ M1 : za_M, zMI M0 M1 d la → (F = 4 → 1 ≤ k → M1 26 16 = nI (zTl k).length ∧ zTA k M1 (zTl k)) → zT L 106 92 [.ref 26, .int (nI v), .int (nI F), .int (nI n), .int (nI e), .int (nI A), .int (zB (ke = true)), .int (nI m), .int (nI k), l9, l10, l11] [] M1 (zME M0 (match zLoop (zTry p pr e A ke) (zSx F v k ((if F = 4 then 4 else 3) ^ k) 0) m d la with
        | .inl (m, d, la) => zLoop (zTry p pr e A ke) (zAx F v dd (k + 1)) m d la
        | .inr x => .inr x)) := by
      intro M1 hI1 hT1
      simp only [q106_92, q106_93]
      refine s106_row hk hp hv hF he hA (by omega) h3 rfl (fun S hS => zSx_K (by omega) h3 _ _ S hS) (zSx F v k ((if F = 4 then 4 else 3) ^ k) 0) 0 rfl (Nat.zero_le _) m d la M1 _ _ hI1 hT1 (fun m' d' la' M' l9 l10 l11 hlp hI' => ?_) (fun x r' M' hlp hE => ?_)
      · rw [hlp]
        simp only [q106_201, q106_204, nI_add]
        exact ih (k + 1) (by omega) (fun _ => by omega) m' d' la' M' _ _ _ hI'
      · rw [hlp]
        exact hE
    have e4 : nI F = nI 4 ↔ F = 4 := nI_eq (by omega) (by omega)
    rw [q106_76, q106_77, q106_78]
    by_cases hF4 : F = 4
    · rw [if_pos (e4.mpr hF4), q106_81, q106_83]
      by_cases hk0 : k = 0
      · rw [if_pos (show nI k ≤ 0 by rw [hk0]; decide)]
        exact go M hI (fun _ q => by omega)
      · rw [if_neg (nI_nle (by omega) (by omega))]
        simp only [q106_86, q106_87, q106_89]
        refine zT_mono (s100 (by omega) (by omega)) ?_
        rintro r1 M1 ⟨a1, a2, a3, a4⟩
        obtain ⟨i1, i2, i3, i4, i5, i6, i7, i8, i9, i10, i11⟩ := hI
        refine go M1 ⟨(a3 4 (by decide)).trans i1, fun c c1 c2 => (a4 c (by omega) (by omega) (by omega)).trans (i2 c c1 c2), (a3 19 (by decide)).trans i3, fun j hj => by rw [a4 39 (by decide) (by decide) (by decide)]; exact i4 j hj, fun j hj => by rw [a4 40 (by decide) (by decide) (by decide)]; exact i5 j hj, fun j hj => by rw [a4 41 (by decide) (by decide) (by decide)]; exact i6 j hj, (a3 11 (by decide)).trans i7, (a3 9 (by decide)).trans i8, (a3 10 (by decide)).trans i9, fun c c1 => (a4 c (by omega) (by omega) (by omega)).trans (i10 c c1), fun c c1 => (a4 c (by omega) (by omega) (by omega)).trans (i11 c c1)⟩ (fun _ _ => ⟨a1, a2⟩)
    · rw [if_neg (fun q => hF4 (e4.mp q))]
      exact go M hI (fun q => absurd q hF4)
end ZA
