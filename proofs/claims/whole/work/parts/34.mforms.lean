/-! the model's forms -/
def zCt (lk : Nat → Option Nat) (x : Nat) : List Nat → Nat
  | [] => 0
  | u :: row => (if lk (2 * u) = some x then 1 else 0) + (if lk (2 * u + 1) = some x then 1 else 0) + zCt lk x row
def zTk (lk : Nat → Option Nat) (row : List Nat) : Nat → List Nat → Bool
  | _, [] => true
  | k, x :: suf => decide (zCt lk x row ≤ if k = 0 then 0 else 1) && zTk lk row (k + 1) suf
theorem zCt_le {lk : Nat → Option Nat} {x : Nat} : ∀ (row : List Nat), zCt lk x row ≤ 2 * row.length
  | [] => Nat.zero_le _
  | u :: row => by
    have := zCt_le (lk := lk) (x := x) row
    unfold zCt
    simp only [List.length_cons]
    split <;> split <;> omega
section ZA
variable {L : Nat} {M : za_M} {Q : Int32 → za_M → Prop}
theorem s91_b {S : zS} (hS : zMo M S) (hK : zK S) {row : List Nat} (hG : zG S.1 row) (hm : M 26 14 = nI row.length) (hR : zRw M 35 34 row) {l1 : Value} : zT L 91 6 [.ref 26, l1] [] M Q ↔ Q (zB (zBl S.2.2.1 row = none)) M := by
  have h24 := hK.1
  have hlen := zG_len hG
  cases hu : row[row.length - 1]? with
  | none =>
    have hl : row.length = 0 := by
      have := List.getElem?_eq_none_iff.mp hu
      omega
    have hz : zBl S.2.2.1 row = none := by unfold zBl; rw [hu]
    rw [hl] at hm
    rw [zB_t hz]
    simp only [q91_6, q91_7, q91_10, q91_13, q91_14, q91_17, q91_18, q91_19, q91_22, q91_23, q91_26, q91_27, q91_28, q91_29, q91_30, q91_31, q91_33, q91_36, q91_37, q91_40, q91_41, hm, z00, if_true, zb1]
  | some u =>
    have hl := (List.getElem?_eq_some_iff.mp hu).1
    have hun := hG.2 u (List.mem_of_getElem? hu)
    have hz : zBl S.2.2.1 row = S.2.2.1 (2 * u) := by unfold zBl; rw [hu]
    have e1 : ¬ nI row.length = 0 := nI_ne0 (by omega) (by omega)
    have e3 : nI row.length - nI 1 = nI (row.length - 1) := pk_sub (by omega)
    have e4 : za_in L 35 false (nI (row.length - 1)) := za_in_of (n := 24) rfl (by omega) (by omega)
    have e5 : (nI (row.length - 1)).toNatClampNeg = row.length - 1 := nI_clamp (by omega)
    have e6 := hR.1 _ u hu
    have e7 := hS.2.2.1 (2 * u) (by omega)
    have e8 : za_in L 27 false (nI (2 * u)) := za_in_of (n := 48) rfl (by omega) (by omega)
    have e9 : (nI (2 * u)).toNatClampNeg = 2 * u := nI_clamp (by omega)
    have e10 := zE_N (zBl_lt hK hG)
    rw [hz] at e10 ⊢
    simp only [q91_6, q91_7, q91_10, q91_13, q91_14, q91_17, q91_18, q91_19, q91_22, q91_23, q91_26, q91_27, q91_28, q91_29, q91_30, q91_31, q91_33, q91_36, q91_37, q91_40, q91_41, hm, e1, e3, e4, e5, e6, if_false, true_and, pk_mul, e7, e8, e9, zb1, zb0]
    by_cases e : S.2.2.1 (2 * u) = none
    · rw [if_pos (e10.mpr e), zB_t e]
    · rw [if_neg (fun q => e (e10.mp q)), zB_f e]
theorem s91 {S : zS} (hS : zMo M S) (hK : zK S) {o : Option Nat} (ho : ∀ k, o = some k → k < S.1) : zT L 91 0 [.ref 26, .int (zE o)] [] M (fun r M' => r = zB (zBl S.2.2.1 (zRch S o 1) = none) ∧ zG S.1 (zRch S o 1) ∧ zGR M M' (zRch S o 1)) := by
  simp only [q91_0, q91_1, q91_2, q91_3]
  refine zT_mono (s90 (g := 1) hS hK ho (Or.inl ⟨rfl, rfl⟩)) ?_
  rintro r M1 ⟨a, b⟩
  rw [s91_b (zGR_V hS b) hK a b.1 b.2.1]
  exact ⟨rfl, a, b⟩
def zPrev (row : List Nat) (k : Nat) : Option Nat := if k = 0 then none else row[k - 1]?
theorem s92_loop {S : zS} (hS : zMo M S) (hK : zK S) {row : List Nat} (hG : zG S.1 row) (hm : M 26 14 = nI row.length) (hR : zRw M 35 34 row) {l1 : Value} : ∀ (suf : List Nat) (k : Nat) (b : Bool), row.drop k = suf → k ≤ row.length → (zT L 92 8 [.ref 26, l1, .int (zB (b = true)), .int (nI k)] [] M Q ↔ Q (zB ((b && zLb S.2.2.1 (zPrev row k) suf) = true)) M) := by
  have h24 := hK.1
  have hlen := zG_len hG
  intro suf
  induction suf with
  | nil =>
    intro k b hd hk
    have hil : row.length ≤ k := List.drop_eq_nil_iff.mp hd
    have e1 : nI row.length ≤ nI k := nI_le hil (by omega)
    rw [q92_8, q92_9, q92_10, q92_13, hm, if_pos e1]
    simp only [q92_67, q92_68, zB_ok]
    rw [zB_cg (show b = true ↔ (b && zLb S.2.2.1 (zPrev row k) []) = true by simp [zLb])]
  | cons u suf ih =>
    intro k b hd hk
    obtain ⟨hu, hd', hil⟩ := zDrop hd
    have hun := hG.2 u (List.mem_of_getElem? hu)
    have e1 : ¬ nI row.length ≤ nI k := nI_ge hil (by omega)
    rw [q92_8, q92_9, q92_10, q92_13, hm, if_neg e1, q92_16, q92_17]
    cases b with
    | false =>
      rw [zB_f (show ¬ false = true by simp), if_pos (by decide)]
      simp only [q92_67, q92_68, zb0]
      rw [zB_f (by simp)]
    | true =>
      rw [zB_t (show true = true from rfl), if_neg (by decide)]
      have e3 : (nI k).toNatClampNeg = k := nI_clamp (by omega)
      have e4 : za_in L 35 false (nI k) := za_in_of (n := 24) rfl (by omega) (by omega)
      have e5 := hR.1 k u hu
      have e6 := hS.2.2.1 (2 * u + 1) (by omega)
      have e8 : za_in L 27 false (nI (2 * u + 1)) := za_in_of (n := 48) rfl (by omega) (by omega)
      have e9 : (nI (2 * u + 1)).toNatClampNeg = 2 * u + 1 := nI_clamp (by omega)
      have hpl : ∀ j, zPrev row k = some j → j < 2 ^ 31 := by
        intro j hj
        unfold zPrev at hj
        split at hj
        · cases hj
        · have := hG.2 j (List.mem_of_getElem? hj); omega
      have e7 := zE_inj (o := S.2.2.1 (2 * u + 1)) (p := zPrev row k) (fun k hk => by have := hK.2.1 _ (show 2 * u + 1 < 2 * S.1 by omega) k hk; omega) hpl
      have hnx : zPrev row (k + 1) = some u := by unfold zPrev; rw [if_neg (by omega)]; exact hu
      have key : zT L 92 52 [.ref 26, l1, .int (nI 1), .int (nI k)] [.int (zE (zPrev row k)), .int (zE (S.2.2.1 (2 * u + 1)))] M Q ↔ Q (zB ((true && zLb S.2.2.1 (zPrev row k) (u :: suf)) = true)) M := by
        have i1 := ih (k + 1) true hd' hil
        have i0 := ih (k + 1) false hd' hil
        rw [zB_t (show true = true from rfl)] at i1
        rw [zB_f (show ¬ false = true by simp)] at i0
        rw [hnx] at i1 i0
        simp only [q92_52, q92_55, q92_56, q92_59, q92_60, q92_61, q92_64, e7, nI_add, i1, i0]
        by_cases e : S.2.2.1 (2 * u + 1) = zPrev row k
        · rw [if_pos e, zB_cg (show (true && zLb S.2.2.1 (some u) suf) = true ↔ (true && zLb S.2.2.1 (zPrev row k) (u :: suf)) = true by simp [zLb, e])]
        · rw [if_neg e, zB_f (by simp), zB_f (by simp [zLb, e])]
      simp only [q92_20, q92_21, q92_24, q92_25, q92_26, q92_29, q92_30, q92_31, q92_32, q92_33, q92_34, q92_35, e3, e4, e5, true_and, pk_mul, nI_add, e8, e9, e6]
      rw [q92_36]
      by_cases hk0 : k = 0
      · have e10 : nI k = 0 := by rw [hk0]; decide
        have hp0 : zE (zPrev row k) = zN := by unfold zPrev; rw [if_pos hk0]; rfl
        rw [if_pos e10]
        simp only [q92_39, q92_41]
        rw [← hp0]
        exact key
      · have e10 : ¬ nI k = 0 := nI_ne0 (by omega) (by omega)
        have hkm : nI k - nI 1 = nI (k - 1) := pk_sub (by omega)
        have hpk : row[k - 1]? = some row[k - 1] := List.getElem?_eq_getElem (by omega)
        have f3 : (nI (k - 1)).toNatClampNeg = k - 1 := nI_clamp (by omega)
        have f4 : za_in L 35 false (nI (k - 1)) := za_in_of (n := 24) rfl (by omega) (by omega)
        have f5 := hR.1 (k - 1) _ hpk
        have hp0 : zE (zPrev row k) = nI row[k - 1] := by unfold zPrev; rw [if_neg hk0, hpk]; rfl
        rw [if_neg e10]
        simp only [q92_44, q92_45, q92_48, q92_49, q92_50, q92_51, hkm, f3, f4, f5, true_and]
        rw [← hp0]
        exact key
theorem s92 {S : zS} (hS : zMo M S) (hK : zK S) {o : Option Nat} (ho : ∀ k, o = some k → k < S.1) : zT L 92 0 [.ref 26, .int (zE o), .null, .null] [] M (fun r M' => r = zB (zForm S o 2 = true) ∧ zGR M M' (zRch S o 1)) := by
  simp only [q92_0, q92_1, q92_2]
  refine zT_mono (s91 hS hK ho) ?_
  rintro r M1 ⟨rfl, a, b⟩
  simp only [q92_5, q92_6, q92_7]
  have h1 := s92_loop (L := L) (l1 := .int (zE o)) (Q := fun r M' => r = zB (zForm S o 2 = true) ∧ zGR M M' (zRch S o 1)) (zGR_V hS b) hK a b.1 b.2.1 (zRch S o 1) 0 (decide (zBl S.2.2.1 (zRch S o 1) = none)) rfl (Nat.zero_le _)
  rw [zB_cg (show decide (zBl S.2.2.1 (zRch S o 1) = none) = true ↔ zBl S.2.2.1 (zRch S o 1) = none by simp)] at h1
  exact h1.mpr ⟨rfl, b⟩
theorem s94_loop {S : zS} (hS : zMo M S) (hK : zK S) {row : List Nat} (hG : zG S.1 row) (hm : M 26 14 = nI row.length) (hR : zRw M 35 34 row) {l1 : Value} : ∀ (suf : List Nat) (k p : Nat) (b : Bool), row.drop (k + 1) = suf → row[k]? = some p → (zT L 94 8 [.ref 26, l1, .int (zB (b = true)), .int (nI (k + 1))] [] M Q ↔ Q (zB ((b && zNf S.2.1 (some p) suf) = true)) M) := by
  have h24 := hK.1
  have hlen := zG_len hG
  intro suf
  induction suf with
  | nil =>
    intro k p b hd hp
    have hil : row.length ≤ k + 1 := List.drop_eq_nil_iff.mp hd
    have hkl := (List.getElem?_eq_some_iff.mp hp).1
    have e1 : nI row.length ≤ nI (k + 1) := nI_le hil (by omega)
    rw [q94_8, q94_9, q94_10, q94_13, hm, if_pos e1]
    simp only [q94_59, q94_60, zB_ok]
    rw [zB_cg (show b = true ↔ (b && zNf S.2.1 (some p) []) = true by simp [zNf])]
  | cons u suf ih =>
    intro k p b hd hp
    obtain ⟨hu, hd', hil⟩ := zDrop hd
    have hun := hG.2 u (List.mem_of_getElem? hu)
    have hpn := hG.2 p (List.mem_of_getElem? hp)
    have e1 : ¬ nI row.length ≤ nI (k + 1) := nI_ge hil (by omega)
    rw [q94_8, q94_9, q94_10, q94_13, hm, if_neg e1, q94_16, q94_17]
    cases b with
    | false =>
      rw [zB_f (show ¬ false = true by simp), if_pos (by decide)]
      simp only [q94_59, q94_60, zb0]
      rw [zB_f (by simp)]
    | true =>
      rw [zB_t (show true = true from rfl), if_neg (by decide)]
      have e3 : (nI (k + 1)).toNatClampNeg = k + 1 := nI_clamp (by omega)
      have e4 : za_in L 35 false (nI (k + 1)) := za_in_of (n := 24) rfl (by omega) (by omega)
      have e3' : (nI k).toNatClampNeg = k := nI_clamp (by omega)
      have e4' : za_in L 35 false (nI k) := za_in_of (n := 24) rfl (by omega) (by omega)
      have e5 := hR.1 (k + 1) u hu
      have e5' := hR.1 k p hp
      have e6 := hS.2.1 u hun
      have e6' := hS.2.1 p hpn
      have e7 : za_in L 28 false (nI u) := za_in_of (n := 24) rfl (by omega) (by omega)
      have e7' : za_in L 28 false (nI p) := za_in_of (n := 24) rfl (by omega) (by omega)
      have e8 : (nI u).toNatClampNeg = u := nI_clamp (by omega)
      have e8' : (nI p).toNatClampNeg = p := nI_clamp (by omega)
      have i1 := ih (k + 1) u true hd' hu
      have i0 := ih (k + 1) u false hd' hu
      rw [zB_t (show true = true from rfl)] at i1
      rw [zB_f (show ¬ false = true by simp)] at i0
      simp only [q94_20, q94_21, q94_24, q94_25, q94_28, q94_29, q94_30, q94_31, q94_32, q94_33, q94_34, q94_37, q94_38, q94_41, q94_42, q94_43, q94_44, q94_47, q94_48, q94_51, q94_52, q94_53, q94_56, nI_m1, e3, e4, e5, e3', e4', e5', e6, e6', e7, e7', e8, e8', true_and, nI_add, i1, i0]
      by_cases e : S.2.1 u < S.2.1 p
      · rw [if_pos e, zB_f (by simp), zB_f (by simp [zNf, e])]
      · rw [if_neg e, zB_cg (show (true && zNf S.2.1 (some u) suf) = true ↔ (true && zNf S.2.1 (some p) (u :: suf)) = true by simp [zNf, e])]
theorem s94 {S : zS} (hS : zMo M S) (hK : zK S) {o : Option Nat} (ho : ∀ k, o = some k → k < S.1) : zT L 94 0 [.ref 26, .int (zE o), .null, .null] [] M (fun r M' => r = zB (zForm S o 5 = true) ∧ zGR M M' (zRch S o 1)) := by
  simp only [q94_0, q94_1, q94_2]
  refine zT_mono (s91 hS hK ho) ?_
  rintro r M1 ⟨rfl, a, b⟩
  simp only [q94_5, q94_6, q94_7]
  cases hrow : (zRch S o 1)[0]? with
  | none =>
    have hl : (zRch S o 1) = [] := by
      have := List.getElem?_eq_none_iff.mp hrow
      exact List.length_eq_zero_iff.mp (by omega)
    have hm := b.1
    rw [hl] at hm
    have e1 : nI 0 ≤ nI 1 := by decide
    rw [q94_8, q94_9, q94_10, q94_13, hm, List.length_nil, if_pos e1]
    simp only [q94_59, q94_60, zB_ok]
    refine ⟨zB_cg ?_, b⟩
    simp [zForm, hl, zNf]
  | some p =>
    have hcons : ∃ suf, zRch S o 1 = p :: suf := by
      cases hz : zRch S o 1 with
      | nil => rw [hz] at hrow; cases hrow
      | cons x suf => rw [hz] at hrow; cases hrow; exact ⟨suf, rfl⟩
    obtain ⟨suf, hc⟩ := hcons
    have h1 := s94_loop (L := L) (l1 := .int (zE o)) (Q := fun r M' => r = zB (zForm S o 5 = true) ∧ zGR M M' (zRch S o 1)) (zGR_V hS b) hK a b.1 b.2.1 suf 0 p (decide (zBl S.2.2.1 (zRch S o 1) = none)) (by rw [hc]; rfl) hrow
    rw [zB_cg (show decide (zBl S.2.2.1 (zRch S o 1) = none) = true ↔ zBl S.2.2.1 (zRch S o 1) = none by simp)] at h1
    refine h1.mpr ⟨zB_cg ?_, b⟩
    have hn : zNf S.2.1 none (zRch S o 1) = zNf S.2.1 (some p) suf := by rw [hc]; rfl
    simp [zForm, hn]
theorem s93_in {S : zS} (hS : zMo M S) (hK : zK S) {row : List Nat} (hG : zG S.1 row) (hm : M 26 14 = nI row.length) (hR : zRw M 35 34 row) {l1 l2 : Value} {k x : Nat} (hx : row[k]? = some x) : ∀ (suf : List Nat) (i c : Nat), row.drop i = suf → i ≤ row.length → c ≤ 2 * i → (zT L 93 28 [.ref 26, l1, l2, .int (nI k), .int (nI c), .int (nI i)] [] M Q ↔ zT L 93 111 [.ref 26, l1, l2, .int (nI k), .int (nI (c + zCt S.2.2.1 x suf)), .int (nI row.length)] [] M Q) := by
  have h24 := hK.1
  have hlen := zG_len hG
  have hkl := (List.getElem?_eq_some_iff.mp hx).1
  have hxn := hG.2 x (List.mem_of_getElem? hx)
  intro suf
  induction suf with
  | nil =>
    intro i c hd hi hc
    have hil : row.length ≤ i := List.drop_eq_nil_iff.mp hd
    have hie : i = row.length := by omega
    have e1 : nI row.length ≤ nI i := nI_le hil (by omega)
    rw [q93_28, q93_30, q93_31, q93_34, hm, if_pos e1, hie]
    rfl
  | cons u suf ih =>
    intro i c hd hi hc
    obtain ⟨hu, hd', hil⟩ := zDrop hd
    have hun := hG.2 u (List.mem_of_getElem? hu)
    have e1 : ¬ nI row.length ≤ nI i := nI_ge hil (by omega)
    have e3 : (nI k).toNatClampNeg = k := nI_clamp (by omega)
    have e4 : za_in L 35 false (nI k) := za_in_of (n := 24) rfl (by omega) (by omega)
    have e3' : (nI i).toNatClampNeg = i := nI_clamp (by omega)
    have e4' : za_in L 35 false (nI i) := za_in_of (n := 24) rfl (by omega) (by omega)
    have e5 := hR.1 k x hx
    have e5' := hR.1 i u hu
    have e6 := hS.2.2.1 (2 * u) (by omega)
    have e6' := hS.2.2.1 (2 * u + 1) (by omega)
    have e8 : za_in L 27 false (nI (2 * u)) := za_in_of (n := 48) rfl (by omega) (by omega)
    have e9 : (nI (2 * u)).toNatClampNeg = 2 * u := nI_clamp (by omega)
    have e8' : za_in L 27 false (nI (2 * u + 1)) := za_in_of (n := 48) rfl (by omega) (by omega)
    have e9' : (nI (2 * u + 1)).toNatClampNeg = 2 * u + 1 := nI_clamp (by omega)
    have f1 := zE_inj (o := S.2.2.1 (2 * u)) (p := some x) (fun k hk => by have := hK.2.1 _ (show 2 * u < 2 * S.1 by omega) k hk; omega) (fun k hk => by cases hk; omega)
    have f2 := zE_inj (o := S.2.2.1 (2 * u + 1)) (p := some x) (fun k hk => by have := hK.2.1 _ (show 2 * u + 1 < 2 * S.1 by omega) k hk; omega) (fun k hk => by cases hk; omega)
    rw [zE_s] at f1 f2
    have i2 := ih (i + 1) (c + 2) hd' hil (by omega)
    have i1 := ih (i + 1) (c + 1) hd' hil (by omega)
    have i0 := ih (i + 1) c hd' hil (by omega)
    have hc2 : nI (c + 1 + 1) = nI (c + 2) := rfl
    rw [q93_28, q93_30, q93_31, q93_34, hm, if_neg e1]
    simp only [q93_37, q93_39, q93_40, q93_43, q93_44, q93_45, q93_48, q93_50, q93_51, q93_52, q93_53, q93_54, q93_57, q93_58, q93_59, q93_62, q93_63, q93_66, q93_67, q93_68, q93_70, q93_72, q93_73, q93_76, q93_77, q93_78, q93_81, q93_83, q93_84, q93_85, q93_86, q93_87, q93_88, q93_89, q93_92, q93_93, q93_94, q93_97, q93_98, q93_101, q93_102, q93_103, q93_105, q93_108, e3, e4, e5, e3', e4', e5', e6, e6', e8, e9, e8', e9', true_and, pk_mul, nI_add, f1, f2, Nat.add_zero, hc2, i2, i1, i0]
    by_cases g1 : S.2.2.1 (2 * u) = some x
    · by_cases g2 : S.2.2.1 (2 * u + 1) = some x
      · rw [if_pos g1, if_pos g2]
        have : zCt S.2.2.1 x (u :: suf) = 2 + zCt S.2.2.1 x suf := by simp [zCt, g1, g2]
        rw [this, Nat.add_assoc]
      · rw [if_pos g1, if_neg g2]
        have : zCt S.2.2.1 x (u :: suf) = 1 + zCt S.2.2.1 x suf := by simp [zCt, g1, g2]
        rw [this, Nat.add_assoc]
    · by_cases g2 : S.2.2.1 (2 * u + 1) = some x
      · rw [if_neg g1, if_pos g2]
        have : zCt S.2.2.1 x (u :: suf) = 1 + zCt S.2.2.1 x suf := by simp [zCt, g1, g2]
        rw [this, Nat.add_assoc]
      · rw [if_neg g1, if_neg g2]
        have : zCt S.2.2.1 x (u :: suf) = zCt S.2.2.1 x suf := by simp [zCt, g1, g2]
        rw [this]
theorem s93_out {S : zS} (hS : zMo M S) (hK : zK S) {row : List Nat} (hG : zG S.1 row) (hm : M 26 14 = nI row.length) (hR : zRw M 35 34 row) {l1 : Value} : ∀ (suf : List Nat) (k : Nat) (b : Bool) (l4 l5 : Value), row.drop k = suf → k ≤ row.length → (zT L 93 10 [.ref 26, l1, .int (zB (b = true)), .int (nI k), l4, l5] [] M Q ↔ Q (zB ((b && zTk S.2.2.1 row k suf) = true)) M) := by
  have h24 := hK.1
  have hlen := zG_len hG
  intro suf
  induction suf with
  | nil =>
    intro k b l4 l5 hd hk
    have hil : row.length ≤ k := List.drop_eq_nil_iff.mp hd
    have e1 : nI row.length ≤ nI k := nI_le hil (by omega)
    rw [q93_10, q93_11, q93_12, q93_15, hm, if_pos e1]
    simp only [q93_137, q93_138, zB_ok]
    rw [zB_cg (show b = true ↔ (b && zTk S.2.2.1 row k []) = true by simp [zTk])]
  | cons x suf ih =>
    intro k b l4 l5 hd hk
    obtain ⟨hx, hd', hil⟩ := zDrop hd
    have e1 : ¬ nI row.length ≤ nI k := nI_ge hil (by omega)
    rw [q93_10, q93_11, q93_12, q93_15, hm, if_neg e1, q93_18, q93_19]
    cases b with
    | false =>
      rw [zB_f (show ¬ false = true by simp), if_pos (by decide)]
      simp only [q93_137, q93_138, zb0]
      rw [zB_f (by simp)]
    | true =>
      rw [zB_t (show true = true from rfl), if_neg (by decide)]
      rw [q93_22, q93_23, q93_25, q93_26, s93_in hS hK hG hm hR hx row 0 0 rfl (Nat.zero_le _) (Nat.zero_le _), Nat.zero_add]
      have hct := zCt_le (lk := S.2.2.1) (x := x) row
      have i1 := fun l4 l5 => ih (k + 1) true l4 l5 hd' hil
      have i0 := fun l4 l5 => ih (k + 1) false l4 l5 hd' hil
      rw [zB_t (show true = true from rfl)] at i1
      rw [zB_f (show ¬ false = true by simp)] at i0
      by_cases hk0 : k = 0
      · have e10 : nI k = 0 := by rw [hk0]; decide
        simp only [q93_111, q93_113, q93_114, q93_117, q93_118, q93_121, q93_122, q93_125, q93_126, q93_129, q93_130, q93_131, q93_134, e10, if_true]
        rw [← e10]
        simp only [nI_add, i1, i0]
        by_cases e : zCt S.2.2.1 x row ≤ 0
        · rw [if_neg (nI_nlt e (by omega)), zB_cg (show (true && zTk S.2.2.1 row (k + 1) suf) = true ↔ (true && zTk S.2.2.1 row k (x :: suf)) = true by simp [zTk, hk0, Nat.le_zero.mp e])]
        · rw [if_pos (nI_lt (show 0 < zCt S.2.2.1 x row by omega) (by omega)), zB_f (by simp), zB_f (by
            have h0 : ¬ zCt S.2.2.1 x row = 0 := by omega
            simp [zTk, hk0, h0])]
      · have e10 : ¬ nI k = 0 := nI_ne0 (by omega) (by omega)
        simp only [q93_111, q93_113, q93_114, q93_117, q93_118, q93_121, q93_122, q93_125, q93_126, q93_129, q93_130, q93_131, q93_134, e10, if_false, nI_add, i1, i0]
        by_cases e : zCt S.2.2.1 x row ≤ 1
        · rw [if_neg (nI_nlt e (by omega)), zB_cg (show (true && zTk S.2.2.1 row (k + 1) suf) = true ↔ (true && zTk S.2.2.1 row k (x :: suf)) = true by simp [zTk, hk0, e])]
        · rw [if_pos (nI_lt (show 1 < zCt S.2.2.1 x row by omega) (by omega)), zB_f (by simp), zB_f (by simp [zTk, hk0, e])]
theorem s93 {S : zS} (hS : zMo M S) (hK : zK S) {o : Option Nat} (ho : ∀ k, o = some k → k < S.1) : zT L 93 0 [.ref 26, .int (zE o), .null, .null, .null, .null] [] M (fun r M' => r = zB (zTk S.2.2.1 (zRch S o 2) 0 (zRch S o 2) = true) ∧ zGR M M' (zRch S o 2)) := by
  simp only [q93_0, q93_1, q93_2, q93_3]
  refine zT_mono (s90 (g := 2) hS hK ho (Or.inr ⟨rfl, rfl⟩)) ?_
  rintro r M1 ⟨a, b⟩
  simp only [q93_6, q93_7, q93_8, q93_9]
  have h1 := s93_out (L := L) (l1 := .int (zE o)) (Q := fun r M' => r = zB (zTk S.2.2.1 (zRch S o 2) 0 (zRch S o 2) = true) ∧ zGR M M' (zRch S o 2)) (zGR_V hS b) hK a b.1 b.2.1 (zRch S o 2) 0 true .null .null rfl (Nat.zero_le _)
  rw [zB_t (show true = true from rfl)] at h1
  exact h1.mpr ⟨zB_cg (by simp), b⟩
end ZA
