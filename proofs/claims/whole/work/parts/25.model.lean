/-! the model: its small methods, its run -/
abbrev zNd (n : Nat) (x : Int32) : Prop := 0 ≤ x.toInt ∧ x.toInt < (n : Int)
theorem zNd_iff {n : Nat} {x : Int32} (hn : n < 2 ^ 31) : zNd n x ↔ ∃ k, k < n ∧ x = nI k := by
  constructor
  · intro h
    exact vp_in_of (vp_in_iff.mpr h) hn
  · rintro ⟨k, hk, rfl⟩
    exact vp_in_iff.mp (vp_in_nI hk hn)
theorem zB_cg {P P' : Prop} [Decidable P] [Decidable P'] (h : P ↔ P') : zB P = zB P' := by
  by_cases hp : P
  · rw [zB_t hp, zB_t (h.mp hp)]
  · rw [zB_f hp, zB_f (fun q => hp (h.mpr q))]
theorem zNd_a {n : Nat} {x : Int32} (hn : n < 2 ^ 31) : (¬ x < 0 ∧ ¬ nI n ≤ x) ↔ zNd n x := by
  have h1 := nI_toInt hn
  have h0 : (0 : Int32).toInt = 0 := by decide
  rw [Int32.lt_iff_toInt_lt, Int32.le_iff_toInt_le, h1, h0]
  omega
theorem zNd_b {n : Nat} {x : Int32} (hn : n + 1 < 2 ^ 31) : (¬ x < 0 ∧ ¬ nI n < x) ↔ zNd (n + 1) x := by
  have h1 := nI_toInt (show n < 2 ^ 31 by omega)
  have h0 : (0 : Int32).toInt = 0 := by decide
  rw [Int32.lt_iff_toInt_lt, Int32.lt_iff_toInt_lt, h1, h0]
  omega
theorem zNd_c {n : Nat} {x : Int32} (hn : n < 2 ^ 30) : (¬ x < nI 0 ∧ ¬ nI n - nI 1 < x) ↔ zNd n x := by
  have h1 := pk_sub_toInt (a := n) (b := 1) hn (by omega)
  have h0 : (nI 0).toInt = 0 := by decide
  rw [Int32.lt_iff_toInt_lt, Int32.lt_iff_toInt_lt, h1, h0]
  omega
theorem zNd_d {n : Nat} {x : Int32} (hn : n + 1 < 2 ^ 31) : (¬ x < nI 0 ∧ ¬ nI n < x) ↔ zNd (n + 1) x := by
  rw [nI_0]
  exact zNd_b hn
section ZA
variable {L : Nat} {M : za_M} {Q : Int32 → za_M → Prop} {h : Nat}
theorem t71 {x : Int32} : zT L 71 0 [.int x] [] M Q ↔ Q (zB (zNd 8 x)) M := by rw [s71, zB_cg (zNd_a (n := 8) (by omega))]
theorem t72 {x : Int32} : zT L 72 0 [.int x] [] M Q ↔ Q (zB (zNd 2 x)) M := by rw [s72, zB_cg (zNd_a (n := 2) (by omega))]
theorem t73 {x : Int32} : zT L 73 0 [.int x] [] M Q ↔ Q (zB (zNd 7 x)) M := by rw [s73, zB_cg (zNd_b (n := 6) (by omega))]
theorem t4 (hH : za_H h) {x : Int32} {n : Nat} (hn : M h 3 = nI n) (h24 : n ≤ 24) : zT L 4 0 [.ref h, .int x] [] M Q ↔ Q (zB (zNd n x)) M := by rw [s4 hH, hn, zB_cg (zNd_a (n := n) (by omega))]
theorem t5 (hH : za_H h) {x : Int32} {n : Nat} (hn : M h 3 = nI n) (h24 : n ≤ 24) : zT L 5 0 [.ref h, .int x] [] M Q ↔ Q (zB (x = zN ∨ zNd n x)) M := by rw [s5 hH, hn, zB_cg (or_congr Iff.rfl (zNd_a (n := n) (by omega)))]
theorem s76 {x lo hi : Int32} : zT L 76 0 [.int x, .int lo, .int hi] [] M Q ↔ Q (zB (¬ x < lo ∧ ¬ hi < x)) M := by
  simp only [q76_0, q76_1, q76_2, q76_5, q76_6, q76_7, q76_10, q76_11, q76_14, q76_15, zb1, zb0]
  by_cases h1 : x < lo <;> by_cases h2 : hi < x <;> simp [h1, h2, zB]
theorem t77 {x : Int32} {n : Nat} (hn : M 26 0 = nI n) (h24 : n ≤ 24) : zT L 77 0 [.ref 26, .int x] [] M Q ↔ Q (zB (zNd n x)) M := by
  simp only [q77_0, q77_1, q77_2, q77_3, q77_6, q77_7, q77_8, q77_11, s76, hn, zB_ok]
  rw [zB_cg (zNd_c (n := n) (by omega))]
theorem t78 {x : Int32} : zT L 78 0 [.int x] [] M Q ↔ Q (zB (zNd 8 x)) M := by
  simp only [q78_0, q78_1, q78_2, q78_4, q78_7, s76, zB_ok]
  rw [zB_cg (zNd_d (n := 7) (by omega))]
theorem s81 : zT L 81 0 [.ref 26, .null] [] M Q ↔ Q (M 26 4) (za_up M 26 4 (nI 0)) := by simp only [q81_0, q81_1, q81_4, q81_5, q81_6, q81_7, q81_10, q81_11]
theorem s82_loop {x : Int32} : ∀ (d v : Nat), v + d = 8 → ∀ (M : za_M), zT L 82 12 [.ref 26, .int x, .int (nI v)] [] M (fun r M' => r = x ∧ (∀ w, v ≤ w → w < 8 → M' 29 w = zN) ∧ (∀ w, w < v → M' 29 w = M 29 w) ∧ ∀ c, c ≠ 29 → M' c = M c) := by
  intro d
  induction d with
  | zero =>
    intro v hv M
    have e1 : nI 8 ≤ nI v := nI_le (by omega) (by omega)
    rw [q82_12, q82_13, q82_15]
    simp only [q82_32, q82_33, e1, if_true, true_and]
    exact ⟨fun w h1 h2 => by omega, fun _ _ => True.intro, fun _ _ => True.intro⟩
  | succ d ih =>
    intro v hv M
    have e1 : ¬ nI 8 ≤ nI v := nI_ge (by omega) (by omega)
    have e2 : (nI v).toNatClampNeg = v := nI_clamp (by omega)
    have e3 : za_in L 29 false (nI v) := za_in_of (n := 8) rfl (by omega) (by omega)
    rw [q82_12, q82_13, q82_15]
    simp only [q82_18, q82_19, q82_22, q82_23, q82_25, q82_26, q82_29, e1, e2, e3, if_false, true_and, nI_add, Nat.reduceLT]
    refine zT_mono (ih (v + 1) (by omega) _) ?_
    rintro r M' ⟨h1, h2, h3, h4⟩
    refine ⟨h1, fun w a b => ?_, fun w a => ?_, fun c hc => ?_⟩
    · by_cases e : w = v
      · subst e; rw [h3 w (by omega), za_up_same]
      · exact h2 w (by omega) b
    · rw [h3 w (by omega), za_up_oi (by omega)]
    · rw [h4 c hc, za_up_ne hc]
theorem s82 : zT L 82 0 [.ref 26, .null, .null] [] M (fun r M' => r = M 26 0 ∧ M' 26 0 = nI 0 ∧ (∀ w, w < 8 → M' 29 w = zN) ∧ (∀ f, f ≠ 0 → M' 26 f = M 26 f) ∧ ∀ c, c ≠ 26 → c ≠ 29 → M' c = M c) := by
  simp only [q82_0, q82_1, q82_4, q82_5, q82_6, q82_7, q82_10, q82_11]
  refine zT_mono (s82_loop 8 0 rfl _) ?_
  rintro r M' ⟨h1, h2, h3, h4⟩
  refine ⟨h1, ?_, fun w hw => h2 w (Nat.zero_le _) hw, fun f hf => ?_, fun c hc hc3 => ?_⟩
  · rw [h4 26 (by omega), za_up_same]
  · rw [h4 26 (by omega), za_up_oi hf]
  · rw [h4 c hc3, za_up_ne hc]
theorem s83_full {key : Int32} (hn : M 26 0 = nI 24) : zT L 83 0 [.ref 26, .int key] [] M Q ↔ Q (-3) M := by
  simp only [q83_0, q83_1, q83_4, q83_6, q83_9, q83_11, q83_12, q83_13, q83_16, q83_17, q83_18, q83_21, q83_22, q83_24, q83_25, q83_26, q83_29, q83_30, q83_31, q83_34, q83_35, q83_36, q83_37, q83_39, q83_40, q83_41, q83_44, q83_45, q83_48, q83_49, q83_50, q83_51, q83_52, q83_55, q83_56, q83_57, q83_60, q83_61, q83_64, q83_65, q83_66, hn, if_true]
def zAddM (M : za_M) (n : Nat) (key : Int32) : za_M := za_up (za_up (za_up (za_up M 27 (2 * n) zN) 27 (2 * n + 1) zN) 28 n key) 26 0 (nI (n + 1))
theorem s83 {key : Int32} {n : Nat} (hn : M 26 0 = nI n) (h24 : n < 24) : zT L 83 0 [.ref 26, .int key] [] M Q ↔ Q (nI n) (zAddM M n key) := by
  have e1 : ¬ nI n = nI 24 := by rw [nI_eq (by omega) (by omega)]; omega
  have e2 : (nI n).toNatClampNeg = n := nI_clamp (by omega)
  have e3 : (nI (2 * n)).toNatClampNeg = 2 * n := nI_clamp (by omega)
  have e4 : (nI (2 * n + 1)).toNatClampNeg = 2 * n + 1 := nI_clamp (by omega)
  have e5 : za_in L 28 false (nI n) := za_in_of (n := 24) rfl (by omega) (by omega)
  have e6 : za_in L 27 false (nI (2 * n)) := za_in_of (n := 48) rfl (by omega) (by omega)
  have e7 : za_in L 27 false (nI (2 * n + 1)) := za_in_of (n := 48) rfl (by omega) (by omega)
  simp only [q83_0, q83_1, q83_4, q83_6, q83_9, q83_11, q83_12, q83_13, q83_16, q83_17, q83_18, q83_21, q83_22, q83_24, q83_25, q83_26, q83_29, q83_30, q83_31, q83_34, q83_35, q83_36, q83_37, q83_39, q83_40, q83_41, q83_44, q83_45, q83_48, q83_49, q83_50, q83_51, q83_52, q83_55, q83_56, q83_57, q83_60, q83_61, q83_64, q83_65, q83_66, hn, e1, e2, e3, e4, e5, e6, e7, if_false, if_true, true_and, nI_add, pk_mul, zAddM, za_up_at, Nat.reduceEqDiff, Nat.reduceLT, nI_m1]
theorem zM_add {S : zS} {key : Int32} (hS : zMo M S) : zMo (zAddM M S.1 key) (zS_add S key) := by
  refine zV_add hS ?_ (fun i => ?_) (fun j => ?_) (fun v => ?_)
  · unfold zAddM
    rw [za_up_same]
  · unfold zAddM
    rw [za_up_oc (by omega), za_up_at, if_pos rfl, za_up_oc (by omega), za_up_oc (by omega)]
  · unfold zAddM
    rw [za_up_oc (by omega), za_up_oc (by omega)]
    simp only [za_up_at, if_true]
    by_cases a : j = 2 * S.1 + 1 <;> by_cases b : j = 2 * S.1 <;> simp [a, b]
  · unfold zAddM
    rw [za_up_oc (by omega), za_up_oc (by omega), za_up_oc (by omega), za_up_oc (by omega)]
theorem zAddM_ne {n : Nat} {key : Int32} {c : Nat} (h1 : c ≠ 26) (h2 : c ≠ 27) (h3 : c ≠ 28) : zAddM M n key c = M c := by
  unfold zAddM
  rw [za_up_ne h1, za_up_ne h3, za_up_ne h2, za_up_ne h2]
theorem zAddM_f {n : Nat} {key : Int32} {f : Nat} (h : f ≠ 0) : zAddM M n key 26 f = M 26 f := by
  unfold zAddM
  rw [za_up_oi h, za_up_oc (by omega), za_up_oc (by omega), za_up_oc (by omega)]
/-- what a step of the model leaves -/
def zMR (M M' : za_M) (S : zS) (d : Nat) (la : Option Nat) : Prop := zMo M' S ∧ M' 26 9 = nI d ∧ M' 26 10 = zE la ∧ (∀ f, f ≠ 0 → f ≠ 9 → f ≠ 10 → M' 26 f = M 26 f) ∧ ∀ c, c ≠ 26 → c ≠ 27 → c ≠ 28 → c ≠ 29 → M' c = M c
set_option maxHeartbeats 4000000 in
theorem s86_step {S : zS} {p i d : Nat} {pr : Nat → zQ} {l2 l3 l4 l5 : Value} (hp : zPM M p pr) (hk : zPK p pr) (hS : zMo M S) (hK : zK S) (hi : i < p) (h9 : M 26 9 = nI d) (hd : d < 500)
    (hret : ∀ o S', zStep S (pr i) i = (.inr o, S') → ∀ M', zMR M M' S' (d + 1) (some i) → Q (nI o) M')
    (hgo : ∀ j S', zStep S (pr i) i = (.inl j, S') → ∀ M' l2 l3 l4 l5, zMR M M' S' (d + 1) (some i) → zT L 86 13 [.ref 26, .int (nI j), l2, l3, l4, l5] [] M' Q) :
    zT L 86 13 [.ref 26, .int (nI i), l2, l3, l4, l5] [] M Q := by
  obtain ⟨hp1, hp2⟩ := hp
  obtain ⟨hk1, hk2⟩ := hk
  obtain ⟨g1, g2, g3, g4⟩ := hp2 i hi
  have hq := hk2 i hi
  have e1 : ¬ nI p ≤ nI i := nI_ge hi (by omega)
  have e2 : ¬ nI d = nI 500 := by rw [nI_eq (by omega) (by omega)]; omega
  have e3 : (nI i).toNatClampNeg = i := nI_clamp (by omega)
  have f2 : za_in L 30 false (nI i) := za_in_of (n := 60) rfl (by omega) (by omega)
  have f3 : za_in L 31 false (nI i) := za_in_of (n := 60) rfl (by omega) (by omega)
  have f4 : za_in L 32 false (nI i) := za_in_of (n := 60) rfl (by omega) (by omega)
  have f5 : za_in L 33 false (nI i) := za_in_of (n := 60) rfl (by omega) (by omega)
  have h24 : S.1 ≤ 24 := hK.1
  obtain ⟨o, ho, hm⟩ := hq
  generalize hpq : pr i = q at *
  obtain ⟨q1, a, b, c⟩ := q
  dsimp only at ho hm g1 g2 g3 g4
  subst ho
  rw [q86_13, q86_14, q86_15, q86_18, hp1, if_neg e1]
  simp only [q86_21, q86_22, q86_25, q86_28, q86_31, q86_32, q86_33, q86_34, q86_35, q86_38, q86_39, q86_40, q86_43, q86_44, q86_45, q86_48, q86_49, q86_52, q86_53, q86_54, q86_55, q86_56, q86_59, q86_60, q86_61, q86_62, q86_63, q86_66, q86_67, q86_68, q86_70, q86_71, q86_72, q86_73, q86_75, q86_76, q86_79, q86_80, h9, e2, e3, f2, f3, f4, f5, za_up_at, g1, g2, g3, g4, nI_add, Nat.reduceEqDiff, if_false, if_true, true_and]
  have hN : ∃ N, N = za_up (za_up M 26 9 (nI (d + 1))) 26 10 (nI i) := ⟨_, rfl⟩
  obtain ⟨N, hN⟩ := hN
  rw [← hN]
  have hS : zMo N S := by
    subst hN
    refine ⟨by rw [za_up_oi (by decide), za_up_oi (by decide)]; exact hS.1, fun j hj => ?_, fun j hj => ?_, fun j hj => ?_⟩
    · rw [za_up_oc (by decide), za_up_oc (by decide)]; exact hS.2.1 j hj
    · rw [za_up_oc (by decide), za_up_oc (by decide)]; exact hS.2.2.1 j hj
    · rw [za_up_oc (by decide), za_up_oc (by decide)]; exact hS.2.2.2 j hj
  have n9 : N 26 9 = nI (d + 1) := by subst hN; rw [za_up_oi (by decide), za_up_same]
  have n10 : N 26 10 = zE (some i) := by subst hN; rw [za_up_same]; rfl
  have nf : ∀ f, f ≠ 0 → f ≠ 9 → f ≠ 10 → N 26 f = M 26 f := fun f _ a b => by subst hN; rw [za_up_oi b, za_up_oi a]
  have nc : ∀ c, c ≠ 26 → c ≠ 27 → c ≠ 28 → c ≠ 29 → N c = M c := fun c a _ _ _ => by subst hN; rw [za_up_ne a, za_up_ne a]
  have hbase : zMR M N S (d + 1) (some i) := ⟨hS, n9, n10, nf, nc⟩
  clear hN
  obtain ⟨v1, v2, v3, v4⟩ := id hS
  have hin : ∀ v, v < 8 → za_in L 29 false (nI v) ∧ (nI v).toNatClampNeg = v := fun v hv => ⟨za_in_of (n := 8) rfl hv (by omega), nI_clamp (by omega)⟩
  have hink : ∀ k, k < S.1 → za_in L 28 false (nI k) ∧ (nI k).toNatClampNeg = k ∧ ¬ nI k = zN := fun k hk => ⟨za_in_of (n := 24) rfl (by omega) (by omega), nI_clamp (by omega), zN_ne (by omega)⟩
  have hinl : ∀ k f, k < S.1 → f < 2 → za_in L 27 false (nI (2 * k + f)) ∧ (nI (2 * k + f)).toNatClampNeg = 2 * k + f := fun k f hk hf => ⟨za_in_of (n := 48) rfl (by omega) (by omega), nI_clamp (by omega)⟩
  match o, hm with
  | 0, ⟨v, hv, e⟩ =>
    subst e
    by_cases hn : S.1 = 24
    · rw [hn] at v1
      have hz : zStep S (nI 0, nI v, b, c) i = (.inr 3, S) := by
        unfold zStep
        rw [show ((nI 0, nI v, b, c) : zQ).1.toNatClampNeg = 0 from nI_clamp (by decide)]
        exact if_pos hn
      simp only [q86_81_0, q86_81_1, q86_81_2, q86_81_3, q86_81_4, q86_81_5, q86_81_6, q86_81_7, q86_81_8, q86_81_9, q86_136, q86_137, q86_140, q86_142, q86_145, q86_146, v1, if_true]
      exact hret 3 S hz N hbase
    · have hz : zStep S (nI 0, nI v, b, c) i = (.inl (i + 1), zS_hold (zS_add S b) v (some S.1)) := by
        unfold zStep
        rw [show ((nI 0, nI v, b, c) : zQ).1.toNatClampNeg = 0 from nI_clamp (by decide)]
        show (if S.1 = 24 then _ else _) = _
        rw [if_neg hn, nI_clamp (show v < 2 ^ 31 by omega)]
      have e24 : ¬ nI S.1 = nI 24 := by rw [nI_eq (by omega) (by omega)]; exact hn
      simp only [q86_81_0, q86_81_1, q86_81_2, q86_81_3, q86_81_4, q86_81_5, q86_81_6, q86_81_7, q86_81_8, q86_81_9, q86_136, q86_137, q86_140, q86_142, q86_145, q86_146, q86_147, q86_148, q86_151, q86_152, q86_153, q86_154, q86_157, q86_158, q86_409, q86_411, q86_412, v1, e24, if_false, s83 v1 (show S.1 < 24 by omega), hin v hv, true_and, Nat.reduceLT]
      refine hgo (i + 1) _ hz _ _ _ _ _ ⟨zV_hold zAp_M (zM_add hS) v (some S.1), ?_, ?_, fun f a b c => ?_, fun c a b c' d => ?_⟩
      · rw [za_up_oc (by decide), zAddM_f (by decide)]; exact n9
      · rw [za_up_oc (by decide), zAddM_f (by decide)]; exact n10
      · rw [za_up_oc (by decide), zAddM_f a]; exact nf f a b c
      · rw [za_up_ne d, zAddM_ne a b c']; exact nc c a b c' d
  | 1, ⟨v, hv, e⟩ =>
    subst e
    have hz : zStep S (nI 1, nI v, b, c) i = (.inl (i + 1), zS_hold S v none) := by
      unfold zStep
      rw [show ((nI 1, nI v, b, c) : zQ).1.toNatClampNeg = 1 from nI_clamp (by decide)]
      show (_, zS_hold S (nI v).toNatClampNeg none) = _
      rw [nI_clamp (show v < 2 ^ 31 by omega)]
    simp only [q86_81_0, q86_81_1, q86_81_2, q86_81_3, q86_81_4, q86_81_5, q86_81_6, q86_81_7, q86_81_8, q86_81_9, q86_161, q86_162, q86_165, q86_166, q86_168, q86_169, q86_409, q86_411, q86_412, hin v hv, true_and, Nat.reduceLT]
    refine hgo (i + 1) _ hz _ _ _ _ _ ⟨zV_hold zAp_M hS v none, ?_, ?_, fun f a b c => ?_, fun c a b c' d => ?_⟩
    · rw [za_up_oc (by decide)]; exact n9
    · rw [za_up_oc (by decide)]; exact n10
    · rw [za_up_oc (by decide)]; exact nf f a b c
    · rw [za_up_ne d]; exact nc c a b c' d
  | 2, ⟨⟨v, hv, e⟩, ⟨w, hw, e2⟩⟩ =>
    subst e e2
    have hz : zStep S (nI 2, nI v, nI w, c) i = (.inl (i + 1), zS_hold S v (S.2.2.2 w)) := by
      unfold zStep
      rw [show ((nI 2, nI v, nI w, c) : zQ).1.toNatClampNeg = 2 from nI_clamp (by decide)]
      show (_, zS_hold S (nI v).toNatClampNeg (S.2.2.2 (nI w).toNatClampNeg)) = _
      rw [nI_clamp (show v < 2 ^ 31 by omega), nI_clamp (show w < 2 ^ 31 by omega)]
    simp only [q86_81_0, q86_81_1, q86_81_2, q86_81_3, q86_81_4, q86_81_5, q86_81_6, q86_81_7, q86_81_8, q86_81_9, q86_172, q86_173, q86_176, q86_177, q86_178, q86_181, q86_182, q86_183, q86_184, q86_409, q86_411, q86_412, hin v hv, hin w hw, v4 w hw, true_and, Nat.reduceLT]
    refine hgo (i + 1) _ hz _ _ _ _ _ ⟨zV_hold zAp_M hS v _, ?_, ?_, fun f a b c => ?_, fun c a b c' d => ?_⟩
    · rw [za_up_oc (by decide)]; exact n9
    · rw [za_up_oc (by decide)]; exact n10
    · rw [za_up_oc (by decide)]; exact nf f a b c
    · rw [za_up_ne d]; exact nc c a b c' d
  | 3, ⟨⟨v, hv, e⟩, ⟨w, hw, e2⟩, ⟨f, hf, e3⟩⟩ =>
    subst e e2 e3
    have hz : zStep S (nI 3, nI v, nI w, nI f) i = (match S.2.2.2 w with
        | none => (.inr 1, S)
        | some k => (.inl (i + 1), zS_hold S v (S.2.2.1 (2 * k + f)))) := by
      unfold zStep
      rw [show ((nI 3, nI v, nI w, nI f) : zQ).1.toNatClampNeg = 3 from nI_clamp (by decide)]
      show ((match S.2.2.2 (nI w).toNatClampNeg with
        | none => (.inr 1, S)
        | some k => (.inl (i + 1), zS_hold S (nI v).toNatClampNeg (S.2.2.1 (2 * k + (nI f).toNatClampNeg)))) : (Nat ⊕ Nat) × zS) = _
      rw [nI_clamp (show v < 2 ^ 31 by omega), nI_clamp (show w < 2 ^ 31 by omega), nI_clamp (show f < 2 ^ 31 by omega)]
    cases hw2 : S.2.2.2 w with
    | none =>
      rw [hw2] at hz
      have hwN : N 29 w = zN := by rw [v4 w hw, hw2]; rfl
      simp only [q86_81_0, q86_81_1, q86_81_2, q86_81_3, q86_81_4, q86_81_5, q86_81_6, q86_81_7, q86_81_8, q86_81_9, q86_187, q86_188, q86_191, q86_192, q86_193, q86_195, q86_198, q86_199, hin w hw, hwN, if_true, true_and]
      exact hret 1 S hz N hbase
    | some k =>
      rw [hw2] at hz
      have hkn := hK.2.2 w hw k hw2
      have hwN : N 29 w = nI k := by rw [v4 w hw, hw2]; rfl
      simp only [q86_81_0, q86_81_1, q86_81_2, q86_81_3, q86_81_4, q86_81_5, q86_81_6, q86_81_7, q86_81_8, q86_81_9, q86_187, q86_188, q86_191, q86_192, q86_193, q86_195, q86_198, q86_199, q86_200, q86_201, q86_204, q86_205, q86_206, q86_209, q86_210, q86_211, q86_214, q86_215, q86_216, q86_217, q86_219, q86_220, q86_221, q86_222, q86_409, q86_411, q86_412, hin w hw, hin v hv, hwN, hink k hkn, if_false, true_and, pk_mul, nI_add, hinl k f hkn hf, v3 (2 * k + f) (by omega), Nat.reduceLT]
      refine hgo (i + 1) _ hz _ _ _ _ _ ⟨zV_hold zAp_M hS v _, ?_, ?_, fun f a b c => ?_, fun c a b c' d => ?_⟩
      · rw [za_up_oc (by decide)]; exact n9
      · rw [za_up_oc (by decide)]; exact n10
      · rw [za_up_oc (by decide)]; exact nf f a b c
      · rw [za_up_ne d]; exact nc c a b c' d
  | 4, ⟨⟨v, hv, e⟩, ⟨f, hf, e2⟩, ⟨w, hw, e3⟩⟩ =>
    subst e e2 e3
    have hz : zStep S (nI 4, nI v, nI f, nI w) i = (match S.2.2.2 v with
        | none => (.inr 1, S)
        | some k => (.inl (i + 1), zS_link S (2 * k + f) (S.2.2.2 w))) := by
      unfold zStep
      rw [show ((nI 4, nI v, nI f, nI w) : zQ).1.toNatClampNeg = 4 from nI_clamp (by decide)]
      show ((match S.2.2.2 (nI v).toNatClampNeg with
        | none => (.inr 1, S)
        | some k => (.inl (i + 1), zS_link S (2 * k + (nI f).toNatClampNeg) (S.2.2.2 (nI w).toNatClampNeg))) : (Nat ⊕ Nat) × zS) = _
      rw [nI_clamp (show v < 2 ^ 31 by omega), nI_clamp (show w < 2 ^ 31 by omega), nI_clamp (show f < 2 ^ 31 by omega)]
    cases hw2 : S.2.2.2 v with
    | none =>
      rw [hw2] at hz
      have hwN : N 29 v = zN := by rw [v4 v hv, hw2]; rfl
      simp only [q86_81_0, q86_81_1, q86_81_2, q86_81_3, q86_81_4, q86_81_5, q86_81_6, q86_81_7, q86_81_8, q86_81_9, q86_225, q86_226, q86_229, q86_230, q86_231, q86_233, q86_236, q86_237, hin v hv, hwN, if_true, true_and]
      exact hret 1 S hz N hbase
    | some k =>
      rw [hw2] at hz
      have hkn := hK.2.2 v hv k hw2
      have hwN : N 29 v = nI k := by rw [v4 v hv, hw2]; rfl
      simp only [q86_81_0, q86_81_1, q86_81_2, q86_81_3, q86_81_4, q86_81_5, q86_81_6, q86_81_7, q86_81_8, q86_81_9, q86_225, q86_226, q86_229, q86_230, q86_231, q86_233, q86_236, q86_237, q86_238, q86_239, q86_242, q86_243, q86_244, q86_247, q86_248, q86_249, q86_250, q86_251, q86_252, q86_253, q86_256, q86_258, q86_259, q86_260, q86_409, q86_411, q86_412, hin w hw, hin v hv, hwN, hink k hkn, if_false, true_and, pk_mul, nI_add, hinl k f hkn hf, v4 w hw, Nat.reduceLT]
      refine hgo (i + 1) _ hz _ _ _ _ _ ⟨zV_link zAp_M hS _ _, ?_, ?_, fun f a b c => ?_, fun c a b c' d => ?_⟩
      · rw [za_up_oc (by decide)]; exact n9
      · rw [za_up_oc (by decide)]; exact n10
      · rw [za_up_oc (by decide)]; exact nf f a b c
      · rw [za_up_ne b]; exact nc c a b c' d
  | 5, ⟨⟨v, hv, e⟩, ⟨w, hw, e2⟩⟩ =>
    subst e e2
    have hz : zStep S (nI 5, nI v, nI w, c) i = (.inl (if S.2.2.2 v = none then w else i + 1), S) := by
      unfold zStep
      rw [show ((nI 5, nI v, nI w, c) : zQ).1.toNatClampNeg = 5 from nI_clamp (by decide)]
      show (Sum.inl (if S.2.2.2 (nI v).toNatClampNeg = none then (nI w).toNatClampNeg else i + 1), S) = _
      rw [nI_clamp (show v < 2 ^ 31 by omega), nI_clamp (show w < 2 ^ 31 by omega)]
    have hzn : zE (S.2.2.2 v) = zN ↔ S.2.2.2 v = none := zE_N (fun k hk => by have := hK.2.2 v hv k hk; omega)
    simp only [q86_81_0, q86_81_1, q86_81_2, q86_81_3, q86_81_4, q86_81_5, q86_81_6, q86_81_7, q86_81_8, q86_81_9, q86_263, q86_264, q86_267, q86_268, q86_269, q86_271, q86_274, q86_275, q86_278, q86_280, q86_282, q86_409, q86_411, q86_412, hin v hv, v4 v hv, hzn, true_and]
    by_cases hnn : S.2.2.2 v = none
    · rw [if_pos hnn]
      rw [if_pos hnn] at hz
      exact hgo w S hz _ _ _ _ _ hbase
    · rw [if_neg hnn]
      rw [if_neg hnn] at hz
      exact hgo (i + 1) S hz _ _ _ _ _ hbase
  | 6, ⟨⟨v, hv, e⟩, ⟨u, hu, e2⟩, ⟨w, hw, e3⟩⟩ =>
    subst e e2 e3
    have hz : zStep S (nI 6, nI v, nI u, nI w) i = (.inl (if S.2.2.2 v = S.2.2.2 u then w else i + 1), S) := by
      unfold zStep
      rw [show ((nI 6, nI v, nI u, nI w) : zQ).1.toNatClampNeg = 6 from nI_clamp (by decide)]
      show (Sum.inl (if S.2.2.2 (nI v).toNatClampNeg = S.2.2.2 (nI u).toNatClampNeg then (nI w).toNatClampNeg else i + 1), S) = _
      rw [nI_clamp (show v < 2 ^ 31 by omega), nI_clamp (show w < 2 ^ 31 by omega), nI_clamp (show u < 2 ^ 31 by omega)]
    have hzn : zE (S.2.2.2 v) = zE (S.2.2.2 u) ↔ S.2.2.2 v = S.2.2.2 u := zE_inj (fun k hk => by have := hK.2.2 v hv k hk; omega) (fun k hk => by have := hK.2.2 u hu k hk; omega)
    simp only [q86_81_0, q86_81_1, q86_81_2, q86_81_3, q86_81_4, q86_81_5, q86_81_6, q86_81_7, q86_81_8, q86_81_9, q86_285, q86_286, q86_289, q86_290, q86_291, q86_292, q86_295, q86_296, q86_297, q86_300, q86_302, q86_305, q86_307, q86_309, q86_409, q86_411, q86_412, hin v hv, hin u hu, v4 v hv, v4 u hu, hzn, true_and]
    by_cases hnn : S.2.2.2 v = S.2.2.2 u
    · rw [if_pos hnn]
      rw [if_pos hnn] at hz
      exact hgo w S hz _ _ _ _ _ hbase
    · rw [if_neg hnn]
      rw [if_neg hnn] at hz
      exact hgo (i + 1) S hz _ _ _ _ _ hbase
  | 7, ⟨⟨v, hv, e⟩, ⟨u, hu, e2⟩, ⟨w, hw, e3⟩⟩ =>
    subst e e2 e3
    have hz : zStep S (nI 7, nI v, nI u, nI w) i = (match S.2.2.2 v with
        | none => (.inr 1, S)
        | some k => (match S.2.2.2 u with
          | none => (.inr 1, S)
          | some j => (.inl (if S.2.1 k < S.2.1 j then w else i + 1), S))) := by
      unfold zStep
      rw [show ((nI 7, nI v, nI u, nI w) : zQ).1.toNatClampNeg = 7 from nI_clamp (by decide)]
      show ((match S.2.2.2 (nI v).toNatClampNeg with
        | none => (.inr 1, S)
        | some k => (match S.2.2.2 (nI u).toNatClampNeg with
          | none => (.inr 1, S)
          | some j => (.inl (if S.2.1 k < S.2.1 j then (nI w).toNatClampNeg else i + 1), S))) : (Nat ⊕ Nat) × zS) = _
      rw [nI_clamp (show v < 2 ^ 31 by omega), nI_clamp (show w < 2 ^ 31 by omega), nI_clamp (show u < 2 ^ 31 by omega)]
    cases hw2 : S.2.2.2 v with
    | none =>
      rw [hw2] at hz
      have hwN : N 29 v = zN := by rw [v4 v hv, hw2]; rfl
      simp only [q86_81_0, q86_81_1, q86_81_2, q86_81_3, q86_81_4, q86_81_5, q86_81_6, q86_81_7, q86_81_8, q86_81_9, q86_312, q86_313, q86_316, q86_317, q86_318, q86_320, q86_323, q86_324, q86_327, q86_328, q86_329, q86_331, q86_334, q86_335, hin v hv, hwN, if_true, true_and]
      exact hret 1 S hz N hbase
    | some k =>
      have hkn := hK.2.2 v hv k hw2
      have hwN : N 29 v = nI k := by rw [v4 v hv, hw2]; rfl
      cases hw3 : S.2.2.2 u with
      | none =>
        rw [hw2, hw3] at hz
        have hwM : N 29 u = zN := by rw [v4 u hu, hw3]; rfl
        simp only [q86_81_0, q86_81_1, q86_81_2, q86_81_3, q86_81_4, q86_81_5, q86_81_6, q86_81_7, q86_81_8, q86_81_9, q86_312, q86_313, q86_316, q86_317, q86_318, q86_320, q86_323, q86_324, q86_327, q86_328, q86_329, q86_331, q86_334, q86_335, hin v hv, hin u hu, hwN, hwM, hink k hkn, if_true, if_false, true_and]
        exact hret 1 S hz N hbase
      | some j =>
        rw [hw2, hw3] at hz
        dsimp only at hz
        have hjn := hK.2.2 u hu j hw3
        have hwM : N 29 u = nI j := by rw [v4 u hu, hw3]; rfl
        simp only [q86_81_0, q86_81_1, q86_81_2, q86_81_3, q86_81_4, q86_81_5, q86_81_6, q86_81_7, q86_81_8, q86_81_9, q86_312, q86_313, q86_316, q86_317, q86_318, q86_320, q86_323, q86_324, q86_327, q86_328, q86_329, q86_331, q86_334, q86_335, q86_336, q86_337, q86_340, q86_341, q86_344, q86_345, q86_346, q86_347, q86_348, q86_351, q86_352, q86_355, q86_356, q86_357, q86_358, q86_361, q86_363, q86_366, q86_368, q86_370, q86_409, q86_411, q86_412, hin v hv, hin u hu, hwN, hwM, hink k hkn, hink j hjn, if_false, true_and, v2 k hkn, v2 j hjn]
        by_cases hlt : S.2.1 k < S.2.1 j
        · rw [if_pos hlt] at hz
          rw [if_neg (Int32.not_le.mpr hlt)]
          exact hgo w S hz _ _ _ _ _ hbase
        · rw [if_neg hlt] at hz
          rw [if_pos (Int32.not_lt.mp hlt)]
          exact hgo (i + 1) S hz _ _ _ _ _ hbase
  | 8, ⟨w, hw, e⟩ =>
    subst e
    have hz : zStep S (nI 8, nI w, b, c) i = (.inl w, S) := by
      unfold zStep
      rw [show ((nI 8, nI w, b, c) : zQ).1.toNatClampNeg = 8 from nI_clamp (by decide)]
      show (Sum.inl (nI w).toNatClampNeg, S) = _
      rw [nI_clamp (show w < 2 ^ 31 by omega)]
    simp only [q86_81_0, q86_81_1, q86_81_2, q86_81_3, q86_81_4, q86_81_5, q86_81_6, q86_81_7, q86_81_8, q86_81_9, q86_373, q86_374, q86_376, q86_409, q86_411, q86_412]
    exact hgo w S hz _ _ _ _ _ hbase
  | 9, ⟨v, hv, e⟩ =>
    subst e
    have hz : zStep S (nI 9, nI v, b, c) i = (match S.2.2.2 v with
        | none => (.inr 1, S)
        | some k => (.inl (i + 1), zS_key S k b)) := by
      unfold zStep
      rw [show ((nI 9, nI v, b, c) : zQ).1.toNatClampNeg = 9 from nI_clamp (by decide)]
      show ((match S.2.2.2 (nI v).toNatClampNeg with
        | none => (.inr 1, S)
        | some k => (.inl (i + 1), zS_key S k b)) : (Nat ⊕ Nat) × zS) = _
      rw [nI_clamp (show v < 2 ^ 31 by omega)]
    cases hw2 : S.2.2.2 v with
    | none =>
      rw [hw2] at hz
      have hwN : N 29 v = zN := by rw [v4 v hv, hw2]; rfl
      simp only [q86_81_0, q86_81_1, q86_81_2, q86_81_3, q86_81_4, q86_81_5, q86_81_6, q86_81_7, q86_81_8, q86_81_9, q86_379, q86_380, q86_383, q86_384, q86_385, q86_387, q86_390, q86_391, hin v hv, hwN, if_true, true_and]
      exact hret 1 S hz N hbase
    | some k =>
      rw [hw2] at hz
      have hkn := hK.2.2 v hv k hw2
      have hwN : N 29 v = nI k := by rw [v4 v hv, hw2]; rfl
      simp only [q86_81_0, q86_81_1, q86_81_2, q86_81_3, q86_81_4, q86_81_5, q86_81_6, q86_81_7, q86_81_8, q86_81_9, q86_379, q86_380, q86_383, q86_384, q86_385, q86_387, q86_390, q86_391, q86_392, q86_393, q86_396, q86_397, q86_400, q86_401, q86_402, q86_403, q86_404, q86_409, q86_411, q86_412, hin v hv, hwN, hink k hkn, if_false, true_and, Nat.reduceLT]
      refine hgo (i + 1) _ hz _ _ _ _ _ ⟨zV_key zAp_M hS _ _, ?_, ?_, fun f a b c => ?_, fun c a b c' d => ?_⟩
      · rw [za_up_oc (by decide)]; exact n9
      · rw [za_up_oc (by decide)]; exact n10
      · rw [za_up_oc (by decide)]; exact nf f a b c
      · rw [za_up_ne c']; exact nc c a b c' d
  | 10, _ =>
    have hz : zStep S (nI 10, a, b, c) i = (.inr 0, S) := by
      unfold zStep
      rw [show ((nI 10, a, b, c) : zQ).1.toNatClampNeg = 10 from nI_clamp (by decide)]
      rfl
    rw [q86_81_d (Or.inr (by decide))]
    simp only [q86_407, q86_408]
    exact hret 0 S hz N hbase
theorem s86_loop {p : Nat} {pr : Nat → zQ} (hk : zPK p pr) : ∀ (k d i : Nat), k + d = 500 → i < 120 → ∀ (S : zS) (la : Option Nat) (M : za_M) (l2 l3 l4 l5 : Value), zPM M p pr → zMo M S → zK S → M 26 9 = nI d → M 26 10 = zE la →
    zT L 86 13 [.ref 26, .int (nI i), l2, l3, l4, l5] [] M (fun r M' => r = nI (zRun p pr k S i d la).1 ∧ zMR M M' (zRun p pr k S i d la).2.1 (zRun p pr k S i d la).2.2.1 (zRun p pr k S i d la).2.2.2) := by
  intro k
  induction k with
  | zero =>
    intro d i hd hi S la M l2 l3 l4 l5 hp hS hK h9 h10
    have hp60 := hk.1
    have hd : d = 500 := by omega
    subst hd
    rw [q86_13, q86_14, q86_15, q86_18, hp.1]
    by_cases hip : i < p
    · have e3 : ¬ nI p ≤ nI i := nI_ge hip (by omega)
      have hr : zRun p pr 0 S i 500 la = (2, S, 500, la) := by unfold zRun; exact if_pos hip
      rw [hr, if_neg e3]
      simp only [q86_21, q86_22, q86_25, q86_28, q86_31, q86_32, h9, if_true]
      exact ⟨True.intro, hS, h9, h10, fun _ _ _ _ => rfl, fun _ _ _ _ _ => rfl⟩
    · have e3 : nI p ≤ nI i := nI_le (by omega) (by omega)
      have hr : zRun p pr 0 S i 500 la = (0, S, 500, la) := by unfold zRun; exact if_neg hip
      rw [hr, if_pos e3]
      simp only [q86_415, q86_416]
      exact ⟨True.intro, hS, h9, h10, fun _ _ _ _ => rfl, fun _ _ _ _ _ => rfl⟩
  | succ k ih =>
    intro d i hd hi S la M l2 l3 l4 l5 hp hS hK h9 h10
    have hp60 := hk.1
    by_cases hip : i < p
    · obtain ⟨z1, z2, z3⟩ := zStep_K (i := i) hK (hk.2 i hip)
      refine s86_step hp hk hS hK hip h9 (by omega) (fun o S' hz M' hM => ?_) (fun j S' hz M' a2 a3 a4 a5 hM => ?_)
      · have hr : zRun p pr (k + 1) S i d la = (o, S', d + 1, some i) := by
          unfold zRun
          rw [if_pos hip, hz]
        rw [hr]
        exact ⟨rfl, hM⟩
      · have hr : zRun p pr (k + 1) S i d la = zRun p pr k S' j (d + 1) (some i) := by
          conv => lhs; unfold zRun
          rw [if_pos hip, hz]
        rw [hr]
        rw [hz] at z1 z2
        have hj : j < 120 := by
          have := Nat.lt_of_lt_of_le hip hk.1
          rcases z2 j rfl with q | q <;> omega
        obtain ⟨m1, m2, m3, m4, m5⟩ := id hM
        have hp' : zPM M' p pr := by
          refine ⟨by rw [m4 4 (by decide) (by decide) (by decide)]; exact hp.1, fun j hj => ?_⟩
          rw [m5 30 (by decide) (by decide) (by decide) (by decide), m5 31 (by decide) (by decide) (by decide) (by decide), m5 32 (by decide) (by decide) (by decide) (by decide), m5 33 (by decide) (by decide) (by decide) (by decide)]
          exact hp.2 j hj
        refine zT_mono (ih (d + 1) j (by omega) hj S' (some i) M' a2 a3 a4 a5 hp' m1 z1 m2 m3) ?_
        rintro r M2 ⟨t0, t1, t2, t3, t4, t5⟩
        exact ⟨t0, t1, t2, t3, fun f a b c => (t4 f a b c).trans (m4 f a b c), fun c a b c' d => (t5 c a b c' d).trans (m5 c a b c' d)⟩
    · have e3 : nI p ≤ nI i := nI_le (by omega) (by omega)
      have hr : zRun p pr (k + 1) S i d la = (0, S, d, la) := by unfold zRun; exact if_neg hip
      rw [hr, q86_13, q86_14, q86_15, q86_18, hp.1, if_pos e3]
      simp only [q86_415, q86_416]
      exact ⟨True.intro, hS, h9, h10, fun _ _ _ _ => rfl, fun _ _ _ _ _ => rfl⟩
theorem s86 {p : Nat} {pr : Nat → zQ} (hk : zPK p pr) {S : zS} (hp : zPM M p pr) (hS : zMo M S) (hK : zK S) : zT L 86 0 [.ref 26, .null, .null, .null, .null, .null] [] M (fun r M' => r = nI (zRun p pr 500 S 0 0 none).1 ∧ zMR M M' (zRun p pr 500 S 0 0 none).2.1 (zRun p pr 500 S 0 0 none).2.2.1 (zRun p pr 500 S 0 0 none).2.2.2) := by
  simp only [q86_0, q86_1, q86_2, q86_3, q86_4, q86_7, q86_8, q86_10]
  have hp' : zPM (za_up (za_up M 26 9 (nI 0)) 26 10 zN) p pr := by
    refine ⟨by rw [za_up_oi (by decide), za_up_oi (by decide)]; exact hp.1, fun j hj => ?_⟩
    rw [za_up_ne (by decide), za_up_ne (by decide), za_up_ne (by decide), za_up_ne (by decide), za_up_ne (by decide), za_up_ne (by decide), za_up_ne (by decide), za_up_ne (by decide)]
    exact hp.2 j hj
  have hS' : zMo (za_up (za_up M 26 9 (nI 0)) 26 10 zN) S := by
    refine ⟨by rw [za_up_oi (by decide), za_up_oi (by decide)]; exact hS.1, fun j hj => ?_, fun j hj => ?_, fun j hj => ?_⟩
    · rw [za_up_oc (by decide), za_up_oc (by decide)]; exact hS.2.1 j hj
    · rw [za_up_oc (by decide), za_up_oc (by decide)]; exact hS.2.2.1 j hj
    · rw [za_up_oc (by decide), za_up_oc (by decide)]; exact hS.2.2.2 j hj
  refine zT_mono (s86_loop hk 500 0 0 rfl (by omega) S none _ _ _ _ _ hp' hS' hK (by rw [za_up_oi (by decide), za_up_same]) (by rw [za_up_same]; rfl)) ?_
  rintro r M2 ⟨t0, t1, t2, t3, t4, t5⟩
  exact ⟨t0, t1, t2, t3, fun f a b c => by rw [t4 f a b c, za_up_oi c, za_up_oi b], fun c a b c' d => by rw [t5 c a b c' d, za_up_ne a, za_up_ne a]⟩
end ZA
