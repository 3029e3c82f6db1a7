/-! each call, on both sides: the answers are the same, and what ties the two stays -/
def zJ (M : za_M) (p : Nat) (pr : Nat → zQ) (S : zS) (d : Nat) (la : Option Nat) (w : Nat) : Prop := (zPC M p pr ∧ zPM M p pr ∧ zPK p pr) ∧ (zC M 6 S ∧ zMo M S ∧ zK S) ∧ (M 1 5 = nI d ∧ M 26 9 = nI d) ∧ (M 1 6 = zE la ∧ M 26 10 = zE la) ∧ (M 0 5 = nI w ∧ M 26 11 = nI w) ∧ ∀ j k, zKd[j]? = some k → M 101 j = nI k
def zJE (M0 M : za_M) : Prop := M 100 = M0 100 ∧ ∃ p pr S d la w, zJ M p pr S d la w
/-- a pair of calls -/
def zPair (L : Nat) (M : za_M) (y1 : Nat) (a1 : List Value) (y2 : Nat) (a2 : List Value) : Prop := zT L y1 0 a1 [] M (fun r M1 => zT L y2 0 a2 [] M1 (fun r' M2 => r = r' ∧ zJE M M2))
section ZA
variable {L : Nat} {M : za_M} {p : Nat} {pr : Nat → zQ} {S : zS} {d : Nat} {la : Option Nat} {w : Nat}
theorem j_op (h : zJ M p pr S d la w) {o a b c : Int32} : zPair L M 55 [.ref 0, .int o, .int a, .int b, .int c] 80 [.ref 26, .int o, .int a, .int b, .int c] := by
  obtain ⟨⟨hp, hq, hk⟩, ⟨hS, hS', hK⟩, ⟨h5, h9⟩, ⟨h6, h10⟩, ⟨hw, hw'⟩, hkd⟩ := id h
  unfold zPair
  simp only [q55_0, q55_1, q55_2, q55_3, q55_5, s27 hkd]
  rw [q55_8]
  by_cases hr : zRb o a b c = true
  · rw [zB_t hr, if_neg (by decide)]
    have hI := zRb_I hr
    by_cases h60 : p = 60
    · subst h60
      simp only [q55_13, q55_14, q55_17, q55_18, q55_19, q55_20, q55_22, q55_25, s29_full hp.1, q80_0, q80_1, q80_2, q80_3, q80_5, s79]
      rw [q80_8, zB_t hr, if_neg (by decide)]
      simp only [q80_13, q80_14, q80_17, q80_19, q80_22, q80_24, hq.1, if_true]
      exact ⟨True.intro, rfl, _, _, _, _, _, _, h⟩
    · have hlt : p < 60 := by have := hk.1; omega
      simp only [q55_13, q55_14, q55_17, q55_18, q55_19, q55_20, q55_22, q55_25, s29 hp.1 hlt, q80_0, q80_1, q80_2, q80_3, q80_5, s79]
      rw [q80_8, zB_t hr, if_neg (by decide)]
      have e1 : ¬ nI p = nI 60 := by rw [nI_eq (by omega) (by omega)]; exact h60
      have e2 : (nI p).toNatClampNeg = p := nI_clamp (by omega)
      have e3 : ∀ a, a = 30 ∨ a = 31 ∨ a = 32 ∨ a = 33 → za_in L a false (nI p) := by
        rintro a (rfl | rfl | rfl | rfl) <;> exact za_in_of (n := 60) rfl hlt (by omega)
      have f0 := e3 30 (by omega)
      have f1 := e3 31 (by omega)
      have f2 := e3 32 (by omega)
      have f3 := e3 33 (by omega)
      simp only [q80_13, q80_14, q80_17, q80_19, q80_22, q80_24, q80_25, q80_26, q80_29, q80_30, q80_33, q80_34, q80_35, q80_36, q80_39, q80_40, q80_43, q80_44, q80_45, q80_46, q80_49, q80_50, q80_53, q80_54, q80_55, q80_56, q80_59, q80_60, q80_63, q80_65, q80_66, q80_67, q80_68, q80_71, q80_72, q80_73, q80_76, q80_77, q80_80, q80_81, q80_82, za_up_at, Nat.reduceEqDiff, if_false, if_true, hq.1, e1, e2, f0, f1, f2, f3, true_and, nI_add, nI_m1, Nat.reduceLT]
      refine ⟨by rw [za_up_ne (by decide), za_up_ne (by decide), za_up_ne (by decide), za_up_ne (by decide), za_up_ne (by decide), za_up_ne (by decide), za_up_ne (by decide), za_up_ne (by decide), za_up_ne (by decide), za_up_ne (by decide)], p + 1, fun i => if i = p then (o, a, b, c) else pr i, S, d, la, w, ⟨⟨?_, fun i hi => ?_⟩, ⟨?_, fun i hi => ?_⟩, hlt, fun i hi => ?_⟩, ⟨?_, ?_, hK⟩, ⟨?_, ?_⟩, ⟨?_, ?_⟩, ⟨?_, ?_⟩, ?_⟩
      · simp only [za_up_at, Nat.reduceEqDiff, if_false, if_true]
      · simp only [za_up_at, Nat.reduceEqDiff, if_false, if_true]
        by_cases q : i = p
        · simp only [q, if_true]; exact ⟨True.intro, True.intro, True.intro, True.intro⟩
        · simp only [q, if_false]; exact hp.2 i (by omega)
      · simp only [za_up_at, Nat.reduceEqDiff, if_false, if_true]
      · simp only [za_up_at, Nat.reduceEqDiff, if_false, if_true]
        by_cases q : i = p
        · simp only [q, if_true]; exact ⟨True.intro, True.intro, True.intro, True.intro⟩
        · simp only [q, if_false]; exact hq.2 i (by omega)
      · show zI (if i = p then (o, a, b, c) else pr i)
        by_cases q : i = p
        · rw [if_pos q]; exact hI
        · rw [if_neg q]; exact hk.2 i (by omega)
      · exact zV_cg hS (by simp only [za_up, za_row, Nat.reduceEqDiff, if_false]) (by simp only [za_up, za_row, Nat.reduceAdd, Nat.reduceEqDiff, if_false]) (by simp only [za_up, za_row, Nat.reduceAdd, Nat.reduceEqDiff, if_false]) (by simp only [za_up, za_row, Nat.reduceAdd, Nat.reduceEqDiff, if_false])
      · refine ⟨?_, ?_, ?_, ?_⟩
        · simp only [za_up_at, Nat.reduceEqDiff, if_false, if_true]; exact hS'.1
        · simp only [za_up_at, Nat.reduceEqDiff, if_false]; exact hS'.2.1
        · simp only [za_up_at, Nat.reduceEqDiff, if_false]; exact hS'.2.2.1
        · simp only [za_up_at, Nat.reduceEqDiff, if_false]; exact hS'.2.2.2
      · simp only [za_up_at, Nat.reduceEqDiff, if_false, if_true]; exact h5
      · simp only [za_up_at, Nat.reduceEqDiff, if_false, if_true]; exact h9
      · simp only [za_up_at, Nat.reduceEqDiff, if_false, if_true]; exact h6
      · simp only [za_up_at, Nat.reduceEqDiff, if_false, if_true]; exact h10
      · simp only [za_up_at, Nat.reduceEqDiff, if_false, if_true]; exact hw
      · simp only [za_up_at, Nat.reduceEqDiff, if_false, if_true]; exact hw'
      · simp only [za_up_at, Nat.reduceEqDiff, if_false]; exact hkd
  · rw [zB_f hr, if_pos (by decide)]
    simp only [q55_11, q55_12, q80_0, q80_1, q80_2, q80_3, q80_5, s79]
    rw [q80_8, zB_f hr, if_pos (by decide)]
    simp only [q80_11, q80_12]
    exact ⟨True.intro, rfl, _, _, _, _, _, _, h⟩
theorem j_clear (h : zJ M p pr S d la w) : zPair L M 56 [.ref 0] 81 [.ref 26, .null] := by
  obtain ⟨⟨hp, hq, hk⟩, ⟨hS, hS', hK⟩, ⟨h5, h9⟩, ⟨h6, h10⟩, ⟨hw, hw'⟩, hkd⟩ := id h
  unfold zPair
  simp only [q56_0, q56_1, q56_4, q56_7, s30, s81]
  refine ⟨?_, by rw [za_up_ne (by decide), za_up_ne (by decide)], 0, pr, S, d, la, w, ⟨⟨?_, fun i hi => by omega⟩, ⟨?_, fun i hi => by omega⟩, by omega, fun i hi => by omega⟩, ⟨?_, ?_, hK⟩, ⟨?_, ?_⟩, ⟨?_, ?_⟩, ⟨?_, ?_⟩, ?_⟩
  · simp only [za_up_at, Nat.reduceEqDiff, if_false]; rw [hp.1, hq.1]
  · simp only [za_up_at, Nat.reduceEqDiff, if_false, if_true]
  · simp only [za_up_at, Nat.reduceEqDiff, if_false, if_true]
  · exact zV_cg hS (by simp only [za_up, za_row, Nat.reduceEqDiff, if_false]) (by simp only [za_up, za_row, Nat.reduceAdd, Nat.reduceEqDiff, if_false]) (by simp only [za_up, za_row, Nat.reduceAdd, Nat.reduceEqDiff, if_false]) (by simp only [za_up, za_row, Nat.reduceAdd, Nat.reduceEqDiff, if_false])
  · refine ⟨?_, ?_, ?_, ?_⟩
    · simp only [za_up_at, Nat.reduceEqDiff, if_false, if_true]; exact hS'.1
    · simp only [za_up_at, Nat.reduceEqDiff, if_false]; exact hS'.2.1
    · simp only [za_up_at, Nat.reduceEqDiff, if_false]; exact hS'.2.2.1
    · simp only [za_up_at, Nat.reduceEqDiff, if_false]; exact hS'.2.2.2
  · simp only [za_up_at, Nat.reduceEqDiff, if_false, if_true]; exact h5
  · simp only [za_up_at, Nat.reduceEqDiff, if_false, if_true]; exact h9
  · simp only [za_up_at, Nat.reduceEqDiff, if_false, if_true]; exact h6
  · simp only [za_up_at, Nat.reduceEqDiff, if_false, if_true]; exact h10
  · simp only [za_up_at, Nat.reduceEqDiff, if_false, if_true]; exact hw
  · simp only [za_up_at, Nat.reduceEqDiff, if_false, if_true]; exact hw'
  · simp only [za_up_at, Nat.reduceEqDiff, if_false]; exact hkd
/-- the heap has changed, on both sides alike -/
theorem zJ_heap {M2 : za_M} {S2 : zS} (h : zJ M p pr S d la w) (c1 : ∀ c, c ≠ 6 → c ≠ 7 → c ≠ 8 → c ≠ 9 → c ≠ 10 → c ≠ 11 → c ≠ 26 → c ≠ 27 → c ≠ 28 → c ≠ 29 → c ≠ 34 → c ≠ 35 → M2 c = M c) (c2 : ∀ f, f ≠ 0 → f ≠ 14 → M2 26 f = M 26 f) (a : zC M2 6 S2) (b : zMo M2 S2) (k : zK S2) : zJE M M2 := by
  obtain ⟨⟨hp, hq, hk⟩, ⟨hS, hS', hK⟩, ⟨h5, h9⟩, ⟨h6, h10⟩, ⟨hw, hw'⟩, hkd⟩ := h
  have cc : ∀ c, (c < 6 ∨ 36 ≤ c ∨ (30 ≤ c ∧ c < 34)) → M2 c = M c := fun c hc => c1 c (by omega) (by omega) (by omega) (by omega) (by omega) (by omega) (by omega) (by omega) (by omega) (by omega) (by omega) (by omega)
  refine ⟨cc 100 (by omega), p, pr, S2, d, la, w, ⟨⟨?_, fun i hi => ?_⟩, ⟨?_, fun i hi => ?_⟩, hk⟩, ⟨a, b, k⟩, ⟨?_, ?_⟩, ⟨?_, ?_⟩, ⟨?_, ?_⟩, ?_⟩
  · rw [cc 1 (by omega)]; exact hp.1
  · rw [cc 2 (by omega), cc 3 (by omega), cc 4 (by omega), cc 5 (by omega)]; exact hp.2 i hi
  · rw [c2 4 (by decide) (by decide)]; exact hq.1
  · rw [cc 30 (by omega), cc 31 (by omega), cc 32 (by omega), cc 33 (by omega)]; exact hq.2 i hi
  · rw [cc 1 (by omega)]; exact h5
  · rw [c2 9 (by decide) (by decide)]; exact h9
  · rw [cc 1 (by omega)]; exact h6
  · rw [c2 10 (by decide) (by decide)]; exact h10
  · rw [cc 0 (by omega)]; exact hw
  · rw [c2 11 (by decide) (by decide)]; exact hw'
  · rw [cc 101 (by omega)]; exact hkd
theorem j_empty (h : zJ M p pr S d la w) : zPair L M 57 [.ref 0] 82 [.ref 26, .null, .null] := by
  obtain ⟨⟨hp, hq, hk⟩, ⟨hS, hS', hK⟩, ⟨h5, h9⟩, ⟨h6, h10⟩, ⟨hw, hw'⟩, hkd⟩ := id h
  have H6 : za_H 6 := Or.inl rfl
  unfold zPair
  simp only [q57_0, q57_1, q57_4, H6]
  refine zT_mono (s1 H6) ?_
  rintro r1 M1 ⟨rfl, b1, c1, d1⟩
  rw [q57_7]
  refine zT_mono s82 ?_
  rintro r2 M2 ⟨rfl, b2, c2, d2, e2⟩
  refine ⟨?_, zJ_heap (S2 := zS_drop S) h (fun c x1 x2 x3 x4 x5 x6 x7 x8 x9 x10 x11 x12 => by rw [e2 c x7 x10, d1 c x1 x4]) (fun f f0 f1 => by rw [d2 f f0, d1 26 (by decide) (by decide)]) (zV_drop (by rw [e2 6 (by decide) (by decide)]; exact b1) (fun v hv => by rw [e2 9 (by decide) (by decide)]; exact c1 v hv)) (zV_drop b2 c2) zK_drop⟩
  rw [d1 26 (by decide) (by decide), hS.1, hS'.1]
theorem j_node (h : zJ M p pr S d la w) {x : Int32} : zPair L M 58 [.ref 0, .int x] 83 [.ref 26, .int x] := by
  obtain ⟨⟨hp, hq, hk⟩, ⟨hS, hS', hK⟩, ⟨h5, h9⟩, ⟨h6, h10⟩, ⟨hw, hw'⟩, hkd⟩ := id h
  have H6 : za_H 6 := Or.inl rfl
  unfold zPair
  by_cases h24 : S.1 = 24
  · have a1 := hS.1
    have a2 := hS'.1
    rw [h24] at a1 a2
    simp only [q58_0, q58_1, q58_4, q58_5, q58_8, H6, s6_full H6 a1, s83_full a2]
    exact ⟨True.intro, rfl, _, _, _, _, _, _, h⟩
  · have hlt : S.1 < 24 := by have := hK.1; omega
    have hn : zAdd M 6 S.1 x 26 0 = nI S.1 := by rw [zAdd_ne (by decide) (by decide) (by decide)]; exact hS'.1
    simp only [q58_0, q58_1, q58_4, q58_5, q58_8, H6, s6 H6 hS.1 hlt, s83 hn hlt]
    have hA := zC_add (key := x) hS
    have hB : zMo (zAdd M 6 S.1 x) S := zV_cg hS' (zAdd_ne (by decide) (by decide) (by decide)) (zAdd_ne (by decide) (by decide) (by decide)) (zAdd_ne (by decide) (by decide) (by decide)) (zAdd_ne (by decide) (by decide) (by decide))
    refine ⟨True.intro, zJ_heap h (fun c x1 x2 x3 x4 x5 x6 x7 x8 x9 x10 x11 x12 => by rw [zAddM_ne x7 x8 x9, zAdd_ne x1 x2 x3]) (fun f f0 f1 => by rw [zAddM_f f0, zAdd_ne (by decide) (by decide) (by decide)]) (zV_cg hA (zAddM_ne (by decide) (by decide) (by decide)) (zAddM_ne (by decide) (by decide) (by decide)) (zAddM_ne (by decide) (by decide) (by decide)) (zAddM_ne (by decide) (by decide) (by decide))) (zM_add hB) (zK_add hK hlt x)⟩
/-- a number that is a node or nothing -/
theorem zOpt {n : Nat} {x : Int32} (hn : n < 2 ^ 31) : (x = zN ∨ zNd n x) ↔ ∃ o, x = zE o ∧ ∀ k, o = some k → k < n := by
  constructor
  · rintro (q | q)
    · exact ⟨none, q, fun k hk => by cases hk⟩
    · obtain ⟨k, hk, rfl⟩ := (zNd_iff hn).mp q
      exact ⟨some k, rfl, fun j hj => by cases hj; exact hk⟩
  · rintro ⟨o, rfl, ho⟩
    cases o with
    | none => exact Or.inl rfl
    | some k => exact Or.inr ((zNd_iff hn).mpr ⟨k, ho k rfl, rfl⟩)
theorem j_link (h : zJ M p pr S d la w) {x f t : Int32} : zPair L M 59 [.ref 0, .int x, .int f, .int t] 84 [.ref 26, .int x, .int f, .int t] := by
  obtain ⟨⟨hp, hq, hk⟩, ⟨hS, hS', hK⟩, ⟨h5, h9⟩, ⟨h6, h10⟩, ⟨hw, hw'⟩, hkd⟩ := id h
  have H6 : za_H 6 := Or.inl rfl
  have h24 := hK.1
  have f2 : ∀ (M : za_M) (x : Int32) (Q : Int32 → za_M → Prop), zT L 76 0 [.int x, .int (nI 0), .int (nI 1)] [] M Q ↔ Q (zB (zNd 2 x)) M := fun M x Q => by rw [s76, zB_cg (zNd_d (n := 1) (by omega))]
  unfold zPair
  by_cases c1 : zNd S.1 x
  · by_cases c2 : zNd 2 f
    · by_cases c3 : t = zN ∨ zNd S.1 t
      · obtain ⟨k, hk1, rfl⟩ := (zNd_iff (by omega)).mp c1
        obtain ⟨g, hg, rfl⟩ := (zNd_iff (by omega)).mp c2
        obtain ⟨o, rfl, ho⟩ := (zOpt (by omega)).mp c3
        simp only [q59_0, q59_1, q59_4, q59_5, q59_8, q59_11, q59_12, q59_15, q59_18, q59_19, q59_22, q59_23, q59_26, q59_29, q59_30, q59_31, q59_32, q59_35, q59_36, q59_37, q59_38, q59_41, q59_42, H6, t4 H6 hS.1 h24, t72, t5 H6 hS.1 h24, zB_t c1, zB_t c2, zB_t c3, z10, if_false, s10 H6 hS.1 h24 hk1 hg]
        have hn1 : za_up M (6 + 2) (2 * k + g) (zE o) 26 0 = nI S.1 := by rw [za_up_oc (by decide)]; exact hS'.1
        have e1 : za_in L 27 false (nI (2 * k + g)) := za_in_of (n := 48) rfl (by omega) (by omega)
        have e2 : (nI (2 * k + g)).toNatClampNeg = 2 * k + g := nI_clamp (by omega)
        have fin : zT L 84 33 [.ref 26, .int (nI k), .int (nI g), .int (zE o)] [] (za_up M (6 + 2) (2 * k + g) (zE o)) (fun r' M2 => nI 0 = r' ∧ zJE M M2) := by
          simp only [q84_33, q84_34, q84_37, q84_38, q84_39, q84_40, q84_41, q84_42, q84_43, q84_44, q84_45, pk_mul, nI_add, e1, e2, true_and, Nat.reduceLT]
          have hA := zV_link (zAp_C 6) hS (2 * k + g) o
          have hB : zMo (za_up M (6 + 2) (2 * k + g) (zE o)) S := zV_cg hS' (za_up_ne (by decide)) (za_up_ne (by decide)) (za_up_ne (by decide)) (za_up_ne (by decide))
          refine zJ_heap h (fun c x1 x2 x3 x4 x5 x6 x7 x8 x9 x10 x11 x12 => by rw [za_up_ne x8, za_up_ne x3]) (fun f f0 f1 => by rw [za_up_oc (by decide), za_up_oc (by decide)]) (zV_cg hA (za_up_ne (by decide)) (za_up_ne (by decide)) (za_up_ne (by decide)) (za_up_ne (by decide))) (zV_link zAp_M hB (2 * k + g) o) (zK_link hK _ ho)
        simp only [q84_0, q84_1, q84_2, q84_5, q84_8, q84_9, q84_10, q84_11, q84_14, q84_17, q84_18, t77 hn1 h24, f2, zB_t c1, zB_t c2, z10, if_false]
        rw [q84_20]
        by_cases ht : zE o = zN
        · rw [if_pos ht]; exact fin
        · have c4 : zNd S.1 (zE o) := c3.resolve_left ht
          rw [if_neg ht]
          simp only [q84_23, q84_24, q84_25, q84_28, t77 hn1 h24, zB_t c4, z10, if_false]
          exact fin
      · simp only [q59_0, q59_1, q59_4, q59_5, q59_8, q59_11, q59_12, q59_15, q59_18, q59_19, q59_22, q59_23, q59_26, q59_29, q59_30, q59_31, q59_32, q59_35, q59_36, q59_37, q59_38, q59_41, q59_42, H6, t4 H6 hS.1 h24, t72, t5 H6 hS.1 h24, zB_t c1, zB_t c2, zB_f c3, z10, z00, if_false, if_true]
        have ht : ¬ t = zN := fun q => c3 (Or.inl q)
        have c4 : ¬ zNd S.1 t := fun q => c3 (Or.inr q)
        simp only [q84_0, q84_1, q84_2, q84_5, q84_8, q84_9, q84_10, q84_11, q84_14, q84_17, q84_18, q84_20, q84_23, q84_24, q84_25, q84_28, q84_31, q84_32, q84_33, q84_34, q84_37, q84_38, q84_39, q84_40, q84_41, q84_42, q84_43, q84_44, q84_45, t77 hS'.1 h24, f2, zB_t c1, zB_t c2, zB_f c4, z10, z00, ht, if_false, if_true]
        exact ⟨True.intro, rfl, _, _, _, _, _, _, h⟩
    · simp only [q59_0, q59_1, q59_4, q59_5, q59_8, q59_11, q59_12, q59_15, q59_18, q59_19, q59_22, q59_23, q59_26, q59_29, q59_30, q59_31, q59_32, q59_35, q59_36, q59_37, q59_38, q59_41, q59_42, H6, t4 H6 hS.1 h24, t72, zB_t c1, zB_f c2, z10, z00, if_false, if_true]
      simp only [q84_0, q84_1, q84_2, q84_5, q84_8, q84_9, q84_10, q84_11, q84_14, q84_17, q84_18, q84_20, q84_23, q84_24, q84_25, q84_28, q84_31, q84_32, q84_33, q84_34, q84_37, q84_38, q84_39, q84_40, q84_41, q84_42, q84_43, q84_44, q84_45, t77 hS'.1 h24, f2, zB_t c1, zB_f c2, z10, z00, if_false, if_true]
      exact ⟨True.intro, rfl, _, _, _, _, _, _, h⟩
  · simp only [q59_0, q59_1, q59_4, q59_5, q59_8, q59_11, q59_12, q59_15, q59_18, q59_19, q59_22, q59_23, q59_26, q59_29, q59_30, q59_31, q59_32, q59_35, q59_36, q59_37, q59_38, q59_41, q59_42, H6, t4 H6 hS.1 h24, zB_f c1, z00, if_true]
    simp only [q84_0, q84_1, q84_2, q84_5, q84_8, q84_9, q84_10, q84_11, q84_14, q84_17, q84_18, q84_20, q84_23, q84_24, q84_25, q84_28, q84_31, q84_32, q84_33, q84_34, q84_37, q84_38, q84_39, q84_40, q84_41, q84_42, q84_43, q84_44, q84_45, t77 hS'.1 h24, zB_f c1, z00, if_true]
    exact ⟨True.intro, rfl, _, _, _, _, _, _, h⟩
theorem j_hold (h : zJ M p pr S d la w) {x t : Int32} : zPair L M 60 [.ref 0, .int x, .int t] 85 [.ref 26, .int x, .int t] := by
  obtain ⟨⟨hp, hq, hk⟩, ⟨hS, hS', hK⟩, ⟨h5, h9⟩, ⟨h6, h10⟩, ⟨hw, hw'⟩, hkd⟩ := id h
  have H6 : za_H 6 := Or.inl rfl
  have h24 := hK.1
  unfold zPair
  by_cases c1 : zNd 8 x
  · by_cases c3 : t = zN ∨ zNd S.1 t
    · obtain ⟨k, hk1, rfl⟩ := (zNd_iff (by omega)).mp c1
      obtain ⟨o, rfl, ho⟩ := (zOpt (by omega)).mp c3
      simp only [q60_0, q60_1, q60_4, q60_7, q60_8, q60_11, q60_12, q60_15, q60_18, q60_19, q60_20, q60_21, q60_24, q60_25, q60_26, q60_29, q60_30, H6, t71, t5 H6 hS.1 h24, zB_t c1, zB_t c3, z10, if_false, s12 H6 hk1]
      have hn1 : za_up M (6 + 3) k (zE o) 26 0 = nI S.1 := by rw [za_up_oc (by decide)]; exact hS'.1
      have e1 : za_in L 29 false (nI k) := za_in_of (n := 8) rfl (by omega) (by omega)
      have e2 : (nI k).toNatClampNeg = k := nI_clamp (by omega)
      have fin : zT L 85 23 [.ref 26, .int (nI k), .int (zE o)] [] (za_up M (6 + 3) k (zE o)) (fun r' M2 => nI 0 = r' ∧ zJE M M2) := by
        simp only [q85_23, q85_24, q85_27, q85_28, q85_29, q85_30, q85_31, e1, e2, true_and, Nat.reduceLT]
        have hA := zV_hold (zAp_C 6) hS k o
        have hB : zMo (za_up M (6 + 3) k (zE o)) S := zV_cg hS' (za_up_ne (by decide)) (za_up_ne (by decide)) (za_up_ne (by decide)) (za_up_ne (by decide))
        refine zJ_heap h (fun c x1 x2 x3 x4 x5 x6 x7 x8 x9 x10 x11 x12 => by rw [za_up_ne x10, za_up_ne x4]) (fun f f0 f1 => by rw [za_up_oc (by decide), za_up_oc (by decide)]) (zV_cg hA (za_up_ne (by decide)) (za_up_ne (by decide)) (za_up_ne (by decide)) (za_up_ne (by decide))) (zV_hold zAp_M hB k o) (zK_hold hK _ ho)
      simp only [q85_0, q85_1, q85_4, q85_7, q85_8, t78, zB_t c1, z10, if_false]
      rw [q85_10]
      by_cases ht : zE o = zN
      · rw [if_pos ht]; exact fin
      · have c4 : zNd S.1 (zE o) := c3.resolve_left ht
        rw [if_neg ht]
        simp only [q85_13, q85_14, q85_15, q85_18, t77 hn1 h24, zB_t c4, z10, if_false]
        exact fin
    · simp only [q60_0, q60_1, q60_4, q60_7, q60_8, q60_11, q60_12, q60_15, q60_18, q60_19, q60_20, q60_21, q60_24, q60_25, q60_26, q60_29, q60_30, H6, t71, t5 H6 hS.1 h24, zB_t c1, zB_f c3, z10, z00, if_false, if_true]
      have ht : ¬ t = zN := fun q => c3 (Or.inl q)
      have c4 : ¬ zNd S.1 t := fun q => c3 (Or.inr q)
      simp only [q85_0, q85_1, q85_4, q85_7, q85_8, q85_10, q85_13, q85_14, q85_15, q85_18, q85_21, q85_22, q85_23, q85_24, q85_27, q85_28, q85_29, q85_30, q85_31, t77 hS'.1 h24, t78, zB_t c1, zB_f c4, z10, z00, ht, if_false, if_true]
      exact ⟨True.intro, rfl, _, _, _, _, _, _, h⟩
  · simp only [q60_0, q60_1, q60_4, q60_7, q60_8, q60_11, q60_12, q60_15, q60_18, q60_19, q60_20, q60_21, q60_24, q60_25, q60_26, q60_29, q60_30, t71, zB_f c1, z00, if_true]
    simp only [q85_0, q85_1, q85_4, q85_7, q85_8, q85_10, q85_13, q85_14, q85_15, q85_18, q85_21, q85_22, q85_23, q85_24, q85_27, q85_28, q85_29, q85_30, q85_31, t78, zB_f c1, z00, if_true]
    exact ⟨True.intro, rfl, _, _, _, _, _, _, h⟩
theorem j_run (h : zJ M p pr S d la w) : zPair L M 61 [.ref 0] 86 [.ref 26, .null, .null, .null, .null, .null] := by
  obtain ⟨⟨hp, hq, hk⟩, ⟨hS, hS', hK⟩, ⟨h5, h9⟩, ⟨h6, h10⟩, ⟨hw, hw'⟩, hkd⟩ := id h
  have H6 : za_H 6 := Or.inl rfl
  unfold zPair
  simp only [q61_0, q61_1, q61_4, q61_5, q61_8, H6]
  refine zT_mono (s34 H6 hk hp hS hK) ?_
  rintro r1 M1 ⟨rfl, a1, b1, c1, d1, e1⟩
  have ff : ∀ c, c ≠ 1 → (c < 6 ∨ 10 ≤ c) → M1 c = M c := fun c x1 x2 => e1 c x1 (by omega)
  rw [q61_11]
  have hq1 : zPM M1 p pr := by
    refine ⟨by rw [ff 26 (by decide) (by omega)]; exact hq.1, fun i hi => ?_⟩
    rw [ff 30 (by decide) (by omega), ff 31 (by decide) (by omega), ff 32 (by decide) (by omega), ff 33 (by decide) (by omega)]
    exact hq.2 i hi
  have hS1 : zMo M1 S := zV_cg hS' (ff 26 (by decide) (by omega)) (ff 28 (by decide) (by omega)) (ff 27 (by decide) (by omega)) (ff 29 (by decide) (by omega))
  refine zT_mono (s86 hk hq1 hS1 hK) ?_
  rintro r2 M2 ⟨rfl, a2, b2, c2, d2, e2⟩
  obtain ⟨z1, z2, z3, z4⟩ := zRun_K hk 500 S 0 0 none hK (fun j hj => by cases hj)
  have gg : ∀ c, c < 26 → M2 c = M1 c := fun c hc => e2 c (by omega) (by omega) (by omega) (by omega)
  have g2 : ∀ c, 30 ≤ c → M2 c = M c := fun c hc => by rw [e2 c (by omega) (by omega) (by omega) (by omega), ff c (by omega) (by omega)]
  refine ⟨rfl, g2 100 (by omega), p, pr, (zRun p pr 500 S 0 0 none).2.1, (zRun p pr 500 S 0 0 none).2.2.1, (zRun p pr 500 S 0 0 none).2.2.2, w, ⟨⟨?_, fun i hi => ?_⟩, ⟨?_, fun i hi => ?_⟩, hk⟩, ⟨zV_cg a1 (gg 6 (by omega)) (gg 7 (by omega)) (gg 8 (by omega)) (gg 9 (by omega)), a2, z1⟩, ⟨?_, b2⟩, ⟨?_, c2⟩, ⟨?_, ?_⟩, ?_⟩
  · rw [gg 1 (by omega)]; exact d1
  · rw [gg 2 (by omega), gg 3 (by omega), gg 4 (by omega), gg 5 (by omega), ff 2 (by decide) (by omega), ff 3 (by decide) (by omega), ff 4 (by decide) (by omega), ff 5 (by decide) (by omega)]; exact hp.2 i hi
  · rw [d2 4 (by decide) (by decide) (by decide)]; exact hq1.1
  · rw [g2 30 (by omega), g2 31 (by omega), g2 32 (by omega), g2 33 (by omega)]; exact hq.2 i hi
  · rw [gg 1 (by omega)]; exact b1
  · rw [gg 1 (by omega)]; exact c1
  · rw [gg 0 (by omega), ff 0 (by decide) (by omega)]; exact hw
  · rw [d2 11 (by decide) (by decide) (by decide), ff 26 (by decide) (by omega)]; exact hw'
  · rw [g2 101 (by omega)]; exact hkd
end ZA
