/-! whether the keys are kept: pure, the class's, the model's -/
def zCk (ks : Nat → Int32) (key : Int32) : List Nat → Nat
  | [] => 0
  | u :: row => (if ks u = key then 1 else 0) + zCk ks key row
def zCn (ks : Nat → Int32) (key : Int32) : Nat → Nat → Nat
  | 0, _ => 0
  | d + 1, i => (if ks i = key then 1 else 0) + zCn ks key d (i + 1)
def zKl (ks : Nat → Int32) (row : List Nat) (ks0 : Nat → Int32) (n0 : Nat) : Nat → Nat → Bool
  | 0, _ => true
  | d + 1, i => decide (zCk ks (ks0 i) row = zCn ks0 (ks0 i) n0 0) && zKl ks row ks0 n0 d (i + 1)
def zKw (ks : Nat → Int32) (row : List Nat) (ks0 : Nat → Int32) (n0 : Nat) : List Nat → Bool
  | [] => true
  | u :: suf => decide (zCk ks (ks u) row = zCn ks0 (ks u) n0 0) && zKw ks row ks0 n0 suf
def zKeep (ks : Nat → Int32) (row : List Nat) (ks0 : Nat → Int32) (n0 : Nat) : Bool := decide (row.length = n0) && zKl ks row ks0 n0 n0 0
theorem zCk_le (ks : Nat → Int32) (key : Int32) : ∀ row : List Nat, zCk ks key row ≤ row.length
  | [] => Nat.le_refl _
  | u :: row => by
    have := zCk_le ks key row
    unfold zCk
    simp only [List.length_cons]
    split <;> omega
theorem zCn_le (ks : Nat → Int32) (key : Int32) : ∀ d i : Nat, zCn ks key d i ≤ d
  | 0, _ => Nat.le_refl _
  | d + 1, i => by
    have := zCn_le ks key d (i + 1)
    unfold zCn
    split <;> omega
theorem zCk_count (ks : Nat → Int32) (key : Int32) : ∀ row : List Nat, zCk ks key row = (row.map ks).count key
  | [] => rfl
  | u :: row => by
    unfold zCk
    rw [List.map_cons, List.count_cons, zCk_count ks key row]
    by_cases e : ks u = key <;> simp [e] <;> omega
def zLs (ks : Nat → Int32) : Nat → Nat → List Int32
  | 0, _ => []
  | d + 1, i => ks i :: zLs ks d (i + 1)
theorem zLs_len (ks : Nat → Int32) : ∀ d i : Nat, (zLs ks d i).length = d
  | 0, _ => rfl
  | d + 1, i => by simp [zLs, zLs_len ks d (i + 1)]
theorem zCn_count (ks : Nat → Int32) (key : Int32) : ∀ d i : Nat, zCn ks key d i = (zLs ks d i).count key
  | 0, _ => rfl
  | d + 1, i => by
    unfold zCn zLs
    rw [List.count_cons, zCn_count ks key d (i + 1)]
    by_cases e : ks i = key <;> simp [e] <;> omega
theorem zMs : ∀ (B A : List Int32), (∀ b, B.count b ≤ A.count b) → A.length ≤ B.length → ∀ x, A.count x = B.count x
  | [], A, _, hl, x => by
    have : A = [] := List.length_eq_zero_iff.mp (Nat.le_zero.mp hl)
    rw [this]
  | b :: B, A, h, hl, x => by
    have hb : b ∈ A := by
      have h1 := h b
      rw [List.count_cons] at h1
      simp at h1
      exact List.count_pos_iff.mp (by omega)
    have h2 : ∀ y, B.count y ≤ (A.erase b).count y := by
      intro y
      have h1 := h y
      rw [List.count_cons] at h1
      rw [List.count_erase]
      split at h1
      · rename_i e
        have e : b = y := by simpa using e
        subst e
        simp
        omega
      · rename_i e
        rw [if_neg (by simpa using fun q => e (by simp [q]))]
        omega
    have h3 : (A.erase b).length ≤ B.length := by
      rw [List.length_erase_of_mem hb]
      simp only [List.length_cons] at hl
      omega
    have h4 := zMs B (A.erase b) h2 h3 x
    rw [List.count_erase] at h4
    rw [List.count_cons, ← h4]
    have h5 : 0 < A.count b := List.count_pos_iff.mpr hb
    by_cases e : b = x
    · subst e
      simp
      omega
    · simp [e]
theorem zKl_iff (ks : Nat → Int32) (row : List Nat) (ks0 : Nat → Int32) (n0 : Nat) : ∀ d i : Nat, zKl ks row ks0 n0 d i = true ↔ ∀ j, i ≤ j → j < i + d → zCk ks (ks0 j) row = zCn ks0 (ks0 j) n0 0
  | 0, i => by
    simp [zKl]
    intro j h1 h2
    omega
  | d + 1, i => by
    unfold zKl
    rw [Bool.and_eq_true, decide_eq_true_eq, zKl_iff ks row ks0 n0 d (i + 1)]
    constructor
    · rintro ⟨h1, h2⟩ j a b
      by_cases e : j = i
      · rw [e]; exact h1
      · exact h2 j (by omega) (by omega)
    · intro h
      exact ⟨h i (Nat.le_refl _) (by omega), fun j a b => h j (by omega) (by omega)⟩
theorem zKw_iff (ks : Nat → Int32) (row : List Nat) (ks0 : Nat → Int32) (n0 : Nat) : ∀ suf : List Nat, zKw ks row ks0 n0 suf = true ↔ ∀ u ∈ suf, zCk ks (ks u) row = zCn ks0 (ks u) n0 0
  | [] => by simp [zKw]
  | u :: suf => by
    unfold zKw
    rw [Bool.and_eq_true, decide_eq_true_eq, zKw_iff ks row ks0 n0 suf]
    simp
theorem zLs_mem {ks : Nat → Int32} {x : Int32} : ∀ {d i : Nat}, x ∈ zLs ks d i → ∃ j, i ≤ j ∧ j < i + d ∧ ks j = x
  | 0, _, h => absurd h List.not_mem_nil
  | d + 1, i, h => by
    rcases List.mem_cons.mp h with e | e
    · exact ⟨i, Nat.le_refl _, by omega, e.symm⟩
    · obtain ⟨j, h1, h2, h3⟩ := zLs_mem e
      exact ⟨j, by omega, by omega, h3⟩
theorem zLs_in {ks : Nat → Int32} {j : Nat} : ∀ {d i : Nat}, i ≤ j → j < i + d → ks j ∈ zLs ks d i
  | 0, i, h1, h2 => by omega
  | d + 1, i, h1, h2 => by
    unfold zLs
    by_cases e : j = i
    · subst e; exact List.mem_cons_self
    · exact List.mem_cons_of_mem _ (zLs_in (by omega) (by omega))
theorem zKeep_eq (ks : Nat → Int32) (row : List Nat) (ks0 : Nat → Int32) (n0 : Nat) : (decide (row.length = n0) && zKw ks row ks0 n0 row) = zKeep ks row ks0 n0 := by
  unfold zKeep
  by_cases hl : row.length = n0
  · rw [Bool.eq_iff_iff, Bool.and_eq_true, Bool.and_eq_true, zKl_iff, zKw_iff]
    simp only [decide_eq_true_eq, hl, true_and]
    have hA : (row.map ks).length = n0 := by rw [List.length_map]; exact hl
    have hB : (zLs ks0 n0 0).length = n0 := zLs_len ks0 n0 0
    constructor
    · intro h j _ hj
      rw [zCk_count, zCn_count]
      refine (zMs (row.map ks) (zLs ks0 n0 0) (fun b => ?_) (by omega) (ks0 j)).symm
      by_cases hb : b ∈ row.map ks
      · obtain ⟨u, hu, rfl⟩ := List.mem_map.mp hb
        have := h u hu
        rw [zCk_count, zCn_count] at this
        omega
      · rw [List.count_eq_zero.mpr hb]; exact Nat.zero_le _
    · intro h u hu
      rw [zCk_count, zCn_count]
      refine zMs (zLs ks0 n0 0) (row.map ks) (fun b => ?_) (by omega) (ks u)
      by_cases hb : b ∈ zLs ks0 n0 0
      · obtain ⟨j, h1, h2, rfl⟩ := zLs_mem hb
        have := h j h1 h2
        rw [zCk_count, zCn_count] at this
        omega
      · rw [List.count_eq_zero.mpr hb]; exact Nat.zero_le _
  · simp [hl]
section ZA
variable {L : Nat} {M : za_M} {Q : Int32 → za_M → Prop} {h : Nat}
theorem s24_loop (hH : za_H h) {S : zS} (hS : zC M h S) (hK : zK S) {row : List Nat} (hG : zG S.1 row) (hR : zRw M (h + 4) (h + 5) row) {key : Int32} : ∀ (suf : List Nat) (i c : Nat), row.drop i = suf → i ≤ row.length → c ≤ i → (zT L 24 5 [.ref h, .int key, .int (nI row.length), .int (nI c), .int (nI i)] [] M Q ↔ Q (nI (c + zCk S.2.1 key suf)) M) := by
  have h24 := hK.1
  have hlen := zG_len hG
  intro suf
  induction suf with
  | nil =>
    intro i c hd hi hc
    have hil : row.length ≤ i := List.drop_eq_nil_iff.mp hd
    have e1 : nI row.length ≤ nI i := nI_le hil (by omega)
    rw [q24_5, q24_7, q24_8, if_pos e1]
    simp only [q24_42, q24_43]
    exact Iff.rfl
  | cons u suf ih =>
    intro i c hd hi hc
    obtain ⟨hu, hd', hil⟩ := zDrop hd
    have hun := hG.2 u (List.mem_of_getElem? hu)
    have e1 : ¬ nI row.length ≤ nI i := nI_ge hil (by omega)
    have e2 : ¬ nI 24 ≤ nI i := nI_ge (by omega) (by omega)
    have e3 : (nI i).toNatClampNeg = i := nI_clamp (by omega)
    have e4 : za_in L (h + 4) false (nI i) := za_in_of (za_Hk hH).2.2.2.1 (by omega) (by omega)
    have e5 := hR.1 i u hu
    have e6 := hS.2.1 u hun
    have i1 := ih (i + 1) (c + 1) hd' hil (by omega)
    have i0 := ih (i + 1) c hd' hil (by omega)
    rw [q24_5, q24_7, q24_8, if_neg e1, q24_11, q24_13, q24_15, if_neg e2]
    simp only [q24_18, q24_19, q24_20, q24_23, q24_25, q24_26, q24_29, q24_30, q24_33, q24_36, q24_39, hH, e3, e4, e5, true_and, s7 hH hS.1 h24 hun, e6, nI_add, i1, i0]
    by_cases e : S.2.1 u = key
    · rw [if_pos e]
      have : zCk S.2.1 key (u :: suf) = 1 + zCk S.2.1 key suf := by simp [zCk, e]
      rw [this, Nat.add_assoc]
    · rw [if_neg e]
      have : zCk S.2.1 key (u :: suf) = zCk S.2.1 key suf := by simp [zCk, e]
      rw [this]
theorem s24 (hH : za_H h) {S : zS} (hS : zC M h S) (hK : zK S) {row : List Nat} (hG : zG S.1 row) (hR : zRw M (h + 4) (h + 5) row) {key : Int32} : zT L 24 0 [.ref h, .int key, .int (nI row.length), .null, .null] [] M Q ↔ Q (nI (zCk S.2.1 key row)) M := by
  simp only [q24_0, q24_1, q24_2, q24_3]
  rw [s24_loop hH hS hK hG hR row 0 0 rfl (Nat.zero_le _) (Nat.le_refl _), Nat.zero_add]
theorem s25_loop (hH : za_H h) {S : zS} (hS : zC M h S) (hK : zK S) {key : Int32} : ∀ (d i c : Nat), d + i = S.1 → c ≤ i → (zT L 25 4 [.ref h, .int key, .int (nI c), .int (nI i)] [] M Q ↔ Q (nI (c + zCn S.2.1 key d i)) M) := by
  have h24 := hK.1
  intro d
  induction d with
  | zero =>
    intro i c hd hc
    have e1 : nI S.1 ≤ nI i := nI_le (by omega) (by omega)
    rw [q25_4, q25_5, q25_6 hH, hS.1, q25_9, if_pos e1]
    simp only [q25_30, q25_31]
    exact Iff.rfl
  | succ d ih =>
    intro i c hd hc
    have hin : i < S.1 := by omega
    have e1 : ¬ nI S.1 ≤ nI i := nI_ge hin (by omega)
    have e6 := hS.2.1 i hin
    have i1 := ih (i + 1) (c + 1) (by omega) (by omega)
    have i0 := ih (i + 1) c (by omega) (by omega)
    rw [q25_4, q25_5, q25_6 hH, hS.1, q25_9, if_neg e1]
    simp only [q25_12, q25_13, q25_14, q25_17, q25_18, q25_21, q25_24, q25_27, hH, s7 hH hS.1 h24 hin, e6, nI_add, i1, i0]
    by_cases e : S.2.1 i = key
    · rw [if_pos e]
      have : zCn S.2.1 key (d + 1) i = 1 + zCn S.2.1 key d (i + 1) := by simp [zCn, e]
      rw [this, Nat.add_assoc]
    · rw [if_neg e]
      have : zCn S.2.1 key (d + 1) i = zCn S.2.1 key d (i + 1) := by simp [zCn, e]
      rw [this]
theorem s25 (hH : za_H h) {S : zS} (hS : zC M h S) (hK : zK S) {key : Int32} : zT L 25 0 [.ref h, .int key, .null, .null] [] M Q ↔ Q (nI (zCn S.2.1 key S.1 0)) M := by
  simp only [q25_0, q25_1, q25_2, q25_3]
  rw [s25_loop hH hS hK S.1 0 0 rfl (Nat.le_refl _), Nat.zero_add]
theorem s23_loop (hH : za_H h) {h0 : Nat} (hH0 : za_H h0) {S S0 : zS} (hS : zC M h S) (hK : zK S) (hS0 : zC M h0 S0) (hK0 : zK S0) {row : List Nat} (hG : zG S.1 row) (hR : zRw M (h + 4) (h + 5) row) (hl : row.length = S0.1) {l1 l2 : Value} : ∀ (d i : Nat), d + i = S0.1 → (zT L 23 22 [.ref h, l1, l2, .ref h0, .int (nI row.length), .int (nI i)] [] M Q ↔ Q (zB (zKl S.2.1 row S0.2.1 S0.1 d i = true)) M) := by
  have h24 := hK0.1
  intro d
  induction d with
  | zero =>
    intro i hd
    have e1 : nI S0.1 ≤ nI i := nI_le (by omega) (by omega)
    rw [q23_22, q23_24, q23_25 hH0, hS0.1, q23_28, if_pos e1]
    simp only [q23_64, q23_65, zb1]
    rw [zB_t (by simp [zKl])]
  | succ d ih =>
    intro i hd
    have hin : i < S0.1 := by omega
    have e1 : ¬ nI S0.1 ≤ nI i := nI_ge hin (by omega)
    have e6 := hS0.2.1 i hin
    have i1 := ih (i + 1) (by omega)
    have c1 := zCk_le S.2.1 (S0.2.1 i) row
    have c2 := zCn_le S0.2.1 (S0.2.1 i) S0.1 0
    rw [q23_22, q23_24, q23_25 hH0, hS0.1, q23_28, if_neg e1]
    simp only [q23_31, q23_32, q23_33, q23_35, q23_38, q23_40, q23_43, q23_44, q23_45, q23_47, q23_50, q23_53, q23_56, q23_57, q23_58, q23_61, hH, hH0, s7 hH0 hS0.1 h24 hin, e6, s24 hH hS hK hG hR, s25 hH0 hS0 hK0, nI_add, i1, zb0]
    have e7 : nI (zCk S.2.1 (S0.2.1 i) row) = nI (zCn S0.2.1 (S0.2.1 i) S0.1 0) ↔ zCk S.2.1 (S0.2.1 i) row = zCn S0.2.1 (S0.2.1 i) S0.1 0 := nI_eq (by omega) (by omega)
    by_cases e : zCk S.2.1 (S0.2.1 i) row = zCn S0.2.1 (S0.2.1 i) S0.1 0
    · rw [if_pos (e7.mpr e), zB_cg (show zKl S.2.1 row S0.2.1 S0.1 d (i + 1) = true ↔ zKl S.2.1 row S0.2.1 S0.1 (d + 1) i = true by simp [zKl, e])]
    · rw [if_neg (fun q => e (e7.mp q)), zB_f (by simp [zKl, e])]
theorem s23 (hH : za_H h) {h0 : Nat} (hH0 : za_H h0) (hne : h0 ≠ h) {S S0 : zS} (hS : zC M h S) (hK : zK S) (hS0 : zC M h0 S0) (hK0 : zK S0) {v g : Nat} (hv : v < 8) {bo : Int32} (hb : (bo = nI 0 ∧ g = 1) ∨ (bo = nI 1 ∧ g = 2)) : zT L 23 0 [.ref h, .int (nI v), .int bo, .ref h0, .null, .null] [] M (fun r M' => r = zB (zKeep S.2.1 (zRch S (S.2.2.2 v) g) S0.2.1 S0.1 = true) ∧ ∀ c, c ≠ h + 4 → c ≠ h + 5 → M' c = M c) := by
  have h24 := hK.1
  have h240 := hK0.1
  have hap : ∀ j, j < 4 → h0 + j ≠ h + 4 ∧ h0 + j ≠ h + 5 := by
    intro j hj
    rcases hH with rfl | rfl | rfl <;> rcases hH0 with rfl | rfl | rfl <;> omega
  simp only [q23_0, q23_1, q23_2, q23_3, hH]
  refine zT_mono (s13 hH hS hK hv hb) ?_
  rintro r M1 ⟨rfl, r2, r3, r4⟩
  have hlen := zG_len r2
  have hS1 : zC M1 h S := zV_cg hS (r4 h (by omega) (by omega)) (r4 (h + 1) (by omega) (by omega)) (r4 (h + 2) (by omega) (by omega)) (r4 (h + 3) (by omega) (by omega))
  have hS01 : zC M1 h0 S0 := zV_cg hS0 (r4 h0 (hap 0 (by omega)).1 (hap 0 (by omega)).2) (r4 (h0 + 1) (hap 1 (by omega)).1 (hap 1 (by omega)).2) (r4 (h0 + 2) (hap 2 (by omega)).1 (hap 2 (by omega)).2) (r4 (h0 + 3) (hap 3 (by omega)).1 (hap 3 (by omega)).2)
  have hrow : zReach S v g = zRch S (S.2.2.2 v) g := rfl
  rw [hrow] at r2 r3 hlen ⊢
  have e7 : nI (zRch S (S.2.2.2 v) g).length = nI S0.1 ↔ (zRch S (S.2.2.2 v) g).length = S0.1 := nI_eq (by omega) (by omega)
  simp only [q23_6, q23_8, q23_10, q23_11, hH0, hS01.1]
  rw [q23_14]
  by_cases e : (zRch S (S.2.2.2 v) g).length = S0.1
  · rw [if_pos (e7.mpr e), q23_19, q23_20, s23_loop hH hH0 hS1 hK hS01 hK0 r2 r3 e S0.1 0 rfl]
    exact ⟨zB_cg (by simp [zKeep, e]), r4⟩
  · rw [if_neg (fun q => e (e7.mp q))]
    simp only [q23_17, q23_18, zb0]
    exact ⟨(zB_f (by simp [zKeep, e])).symm, r4⟩
theorem s105_in {S : zS} (hS : zMo M S) (hK : zK S) {row : List Nat} (hG : zG S.1 row) (hm : M 26 14 = nI row.length) (hR : zRw M 35 34 row) {n F : Nat} {ks0 : Nat → Int32} (hn : row.length = n) (hF : F ≤ 5) (h0 : ∀ i, i < n → (if F = 4 then nI 0 else M 38 i) = ks0 i) (hn5 : n ≤ 5) {l3 l4 l5 : Value} {k x : Nat} (hx : row[k]? = some x) : ∀ (suf : List Nat) (i a c : Nat), row.drop i = suf → i ≤ n → a ≤ i → c ≤ i → (zT L 105 60 [.ref 26, .int (nI F), .int (nI n), l3, l4, l5, .int (nI k), .int (nI a), .int (nI c), .int (nI i)] [] M Q ↔ zT L 105 150 [.ref 26, .int (nI F), .int (nI n), l3, l4, l5, .int (nI k), .int (nI (a + zCk S.2.1 (S.2.1 x) suf)), .int (nI (c + zCn ks0 (S.2.1 x) (n - i) i)), .int (nI n)] [] M Q) := by
  have h24 := hK.1
  have hlen := zG_len hG
  have hkl := (List.getElem?_eq_some_iff.mp hx).1
  have hxn := hG.2 x (List.mem_of_getElem? hx)
  intro suf
  induction suf with
  | nil =>
    intro i a c hd hi ha hc
    have hil : row.length ≤ i := List.drop_eq_nil_iff.mp hd
    have hie : i = n := by omega
    have e1 : nI n ≤ nI i := nI_le (by omega) (by omega)
    rw [q105_60, q105_62, q105_63, if_pos e1, hie, Nat.sub_self]
    rfl
  | cons u suf ih =>
    intro i a c hd hi ha hc
    obtain ⟨hu, hd', hil⟩ := zDrop hd
    have hun := hG.2 u (List.mem_of_getElem? hu)
    have e1 : ¬ nI n ≤ nI i := nI_ge (by omega) (by omega)
    have e3 : (nI k).toNatClampNeg = k := nI_clamp (by omega)
    have e4 : za_in L 35 false (nI k) := za_in_of (n := 24) rfl (by omega) (by omega)
    have e3' : (nI i).toNatClampNeg = i := nI_clamp (by omega)
    have e4' : za_in L 35 false (nI i) := za_in_of (n := 24) rfl (by omega) (by omega)
    have e4'' : za_in L 38 false (nI i) := za_in_of (n := 5) rfl (by omega) (by omega)
    have e5 := hR.1 k x hx
    have e5' := hR.1 i u hu
    have e6 := hS.2.1 x hxn
    have e6' := hS.2.1 u hun
    have e8 : za_in L 28 false (nI x) := za_in_of (n := 24) rfl (by omega) (by omega)
    have e9 : (nI x).toNatClampNeg = x := nI_clamp (by omega)
    have e8' : za_in L 28 false (nI u) := za_in_of (n := 24) rfl (by omega) (by omega)
    have e9' : (nI u).toNatClampNeg = u := nI_clamp (by omega)
    have f0 := h0 i (by omega)
    have hsub : n - i = (n - (i + 1)) + 1 := by omega
    have j11 := ih (i + 1) (a + 1) (c + 1) hd' (by omega) (by omega) (by omega)
    have j10 := ih (i + 1) (a + 1) c hd' (by omega) (by omega) (by omega)
    have j01 := ih (i + 1) a (c + 1) hd' (by omega) (by omega) (by omega)
    have j00 := ih (i + 1) a c hd' (by omega) (by omega) (by omega)
    have hw : ∀ a' : Nat, zT L 105 103 [.ref 26, .int (nI F), .int (nI n), l3, l4, l5, .int (nI k), .int (nI a'), .int (nI c), .int (nI i)] [] M Q ↔ zT L 105 133 [.ref 26, .int (nI F), .int (nI n), l3, l4, l5, .int (nI k), .int (nI a'), .int (nI c), .int (nI i)] [.int (S.2.1 x), .int (ks0 i), .int (nI c)] M Q := by
      intro a'
      by_cases hF4 : F = 4
      · subst hF4
        rw [if_pos rfl] at f0
        simp only [q105_103, q105_105, q105_106, q105_107, q105_110, q105_111, q105_114, q105_115, q105_118, q105_120, q105_121, q105_122, q105_125, q105_126, q105_129, q105_131, q105_132, if_true, e3, e4, e5, e6, e8, e9, true_and, f0]
      · have hF4' : ¬ nI F = nI 4 := by rw [nI_eq (by omega) (by omega)]; exact hF4
        rw [if_neg hF4] at f0
        simp only [q105_103, q105_105, q105_106, q105_107, q105_110, q105_111, q105_114, q105_115, q105_118, q105_120, q105_121, q105_122, q105_125, q105_126, q105_129, q105_131, q105_132, hF4', if_false, e3, e4, e5, e6, e8, e9, true_and, e3', e4'', f0]
    rw [q105_60, q105_62, q105_63, if_neg e1]
    simp only [q105_66, q105_68, q105_69, q105_72, q105_73, q105_76, q105_78, q105_79, q105_80, q105_81, q105_84, q105_85, q105_88, q105_90, q105_91, q105_92, q105_95, q105_96, q105_99, q105_100, q105_101, e3, e4, e5, e3', e4', e5', e6, e6', e8, e9, e8', e9', true_and, nI_add, hw]
    simp only [q105_133, q105_136, q105_137, q105_140, q105_141, q105_142, q105_144, q105_147, nI_add, Nat.add_zero, j11, j10, j01, j00]
    have hcn : zCn ks0 (S.2.1 x) (n - i) i = (if ks0 i = S.2.1 x then 1 else 0) + zCn ks0 (S.2.1 x) (n - (i + 1)) (i + 1) := by rw [hsub]; rfl
    by_cases g1 : S.2.1 u = S.2.1 x
    · by_cases g2 : ks0 i = S.2.1 x
      · rw [if_pos g1, if_pos g2, hcn, if_pos g2]
        have : zCk S.2.1 (S.2.1 x) (u :: suf) = 1 + zCk S.2.1 (S.2.1 x) suf := by simp [zCk, g1]
        rw [this, Nat.add_assoc, Nat.add_assoc]
      · rw [if_pos g1, if_neg g2, hcn, if_neg g2]
        have : zCk S.2.1 (S.2.1 x) (u :: suf) = 1 + zCk S.2.1 (S.2.1 x) suf := by simp [zCk, g1]
        rw [this, Nat.add_assoc, Nat.zero_add]
    · by_cases g2 : ks0 i = S.2.1 x
      · rw [if_neg g1, if_pos g2, hcn, if_pos g2]
        have : zCk S.2.1 (S.2.1 x) (u :: suf) = zCk S.2.1 (S.2.1 x) suf := by simp [zCk, g1]
        rw [this, Nat.add_assoc]
      · rw [if_neg g1, if_neg g2, hcn, if_neg g2]
        have : zCk S.2.1 (S.2.1 x) (u :: suf) = zCk S.2.1 (S.2.1 x) suf := by simp [zCk, g1]
        rw [this, Nat.zero_add]
theorem s105_out {S : zS} (hS : zMo M S) (hK : zK S) {row : List Nat} (hG : zG S.1 row) (hm : M 26 14 = nI row.length) (hR : zRw M 35 34 row) {n F : Nat} {ks0 : Nat → Int32} (hn : row.length = n) (hF : F ≤ 5) (h0 : ∀ i, i < n → (if F = 4 then nI 0 else M 38 i) = ks0 i) (hn5 : n ≤ 5) {l3 l4 : Value} : ∀ (suf : List Nat) (k : Nat) (b : Bool) (l7 l8 l9 : Value), row.drop k = suf → k ≤ n → (zT L 105 37 [.ref 26, .int (nI F), .int (nI n), l3, l4, .int (zB (b = true)), .int (nI k), l7, l8, l9] [] M Q ↔ Q (zB ((b && zKw S.2.1 row ks0 n suf) = true)) M) := by
  have h24 := hK.1
  have hlen := zG_len hG
  intro suf
  induction suf with
  | nil =>
    intro k b l7 l8 l9 hd hk
    have hil : row.length ≤ k := List.drop_eq_nil_iff.mp hd
    have e1 : nI row.length ≤ nI k := nI_le hil (by omega)
    rw [q105_37, q105_39, q105_40, q105_43, hm, if_pos e1]
    simp only [q105_170, q105_172, zB_ok]
    rw [zB_cg (show b = true ↔ (b && zKw S.2.1 row ks0 n []) = true by simp [zKw])]
  | cons x suf ih =>
    intro k b l7 l8 l9 hd hk
    obtain ⟨hx, hd', hil⟩ := zDrop hd
    have e1 : ¬ nI row.length ≤ nI k := nI_ge hil (by omega)
    rw [q105_37, q105_39, q105_40, q105_43, hm, if_neg e1, q105_46, q105_48]
    cases b with
    | false =>
      rw [zB_f (show ¬ false = true by simp), if_pos (by decide)]
      simp only [q105_170, q105_172, zb0]
      rw [zB_f (by simp)]
    | true =>
      rw [zB_t (show true = true from rfl), if_neg (by decide)]
      rw [q105_51, q105_52, q105_54, q105_55, q105_57, q105_58, s105_in hS hK hG hm hR hn hF h0 hn5 hx row 0 0 0 rfl (Nat.zero_le _) (Nat.le_refl _) (Nat.le_refl _), Nat.zero_add, Nat.zero_add, Nat.sub_zero]
      have c1 := zCk_le S.2.1 (S.2.1 x) row
      have c2 := zCn_le ks0 (S.2.1 x) n 0
      have i1 := fun l7 l8 l9 => ih (k + 1) true l7 l8 l9 hd' (by omega)
      have i0 := fun l7 l8 l9 => ih (k + 1) false l7 l8 l9 hd' (by omega)
      rw [zB_t (show true = true from rfl)] at i1
      rw [zB_f (show ¬ false = true by simp)] at i0
      simp only [q105_150, q105_152, q105_154, q105_157, q105_158, q105_161, q105_162, q105_164, q105_167, nI_add, i1, i0]
      have e7 : nI (zCk S.2.1 (S.2.1 x) row) = nI (zCn ks0 (S.2.1 x) n 0) ↔ zCk S.2.1 (S.2.1 x) row = zCn ks0 (S.2.1 x) n 0 := nI_eq (by omega) (by omega)
      by_cases e : zCk S.2.1 (S.2.1 x) row = zCn ks0 (S.2.1 x) n 0
      · rw [if_pos (e7.mpr e), zB_cg (show (true && zKw S.2.1 row ks0 n suf) = true ↔ (true && zKw S.2.1 row ks0 n (x :: suf)) = true by simp [zKw, e])]
      · rw [if_neg (fun q => e (e7.mp q)), zB_f (by simp), zB_f (by simp [zKw, e])]
theorem s105 {S : zS} (hS : zMo M S) (hK : zK S) {v n F A : Nat} {ks0 : Nat → Int32} (hv : v < 8) (hF : F ≤ 5) (hA : A ≤ 6) (h0 : ∀ i, i < n → (if F = 4 then nI 0 else M 38 i) = ks0 i) (hn5 : n ≤ 5) : zT L 105 0 [.ref 26, .int (nI F), .int (nI n), .int (nI v), .int (nI A), .null, .null, .null, .null, .null] [] M (fun r M' => r = zB (zKeep S.2.1 (zRch S (S.2.2.2 v) (if A = 4 then 2 else 1)) ks0 n = true) ∧ zHR M M') := by
  have h24 := hK.1
  have e1 : za_in L 29 false (nI v) := za_in_of (n := 8) rfl hv (by omega)
  have e2 : (nI v).toNatClampNeg = v := nI_clamp (by omega)
  have e3 := hS.2.2.2 v hv
  have ho := hK.2.2 v hv
  have key : ∀ g, g = (if A = 4 then 2 else 1) → ∀ bo : Int32, ((bo = nI 0 ∧ g = 1) ∨ (bo = nI 1 ∧ g = 2)) → zT L 105 18 [.ref 26, .int (nI F), .int (nI n), .int (nI v), .int (nI A), .null, .null, .null, .null, .null] [.int bo, .int (zE (S.2.2.2 v)), .ref 26] M (fun r M' => r = zB (zKeep S.2.1 (zRch S (S.2.2.2 v) (if A = 4 then 2 else 1)) ks0 n = true) ∧ zHR M M') := by
    intro g hg bo hb
    rw [← hg]
    rw [q105_18]
    refine zT_mono (s90 hS hK ho hb) ?_
    rintro r M1 ⟨a, b⟩
    have hlen := zG_len a
    have e7 : nI (zRch S (S.2.2.2 v) g).length = nI n ↔ (zRch S (S.2.2.2 v) g).length = n := nI_eq (by omega) (by omega)
    rw [q105_21, q105_22, q105_25, q105_26, b.1]
    by_cases e : (zRch S (S.2.2.2 v) g).length = n
    · rw [if_pos (e7.mpr e)]
      simp only [q105_31, q105_32, q105_34, q105_35]
      have h1 := s105_out (L := L) (l3 := .int (nI v)) (l4 := .int (nI A)) (Q := fun r M' => r = zB (zKeep S.2.1 (zRch S (S.2.2.2 v) g) ks0 n = true) ∧ zHR M M') (zGR_V hS b) hK a b.1 b.2.1 e hF (by rw [b.2.2.2 38 (by decide) (by decide) (by decide)]; exact h0) hn5 (zRch S (S.2.2.2 v) g) 0 true .null .null .null rfl (Nat.zero_le _)
      rw [zB_t (show true = true from rfl)] at h1
      refine h1.mpr ⟨zB_cg ?_, zHR_of b⟩
      rw [← zKeep_eq]
      simp [e]
    · rw [if_neg (fun q => e (e7.mp q))]
      simp only [q105_29, q105_30, zb0]
      refine ⟨(zB_f ?_).symm, zHR_of b⟩
      simp [zKeep, e]
  by_cases hA4 : A = 4
  · subst hA4
    simp only [q105_0, q105_1, q105_2, q105_5, q105_6, q105_7, q105_9, q105_10, q105_13, q105_14, q105_17, e1, e2, e3, true_and, if_true]
    exact key 2 rfl (nI 1) (Or.inr ⟨rfl, rfl⟩)
  · have e4 : ¬ nI A = nI 4 := by rw [nI_eq (by omega) (by omega)]; exact hA4
    simp only [q105_0, q105_1, q105_2, q105_5, q105_6, q105_7, q105_9, q105_10, q105_13, q105_14, q105_17, e1, e2, e3, true_and, e4, if_false]
    exact key 1 (by rw [if_neg hA4]) (nI 0) (Or.inl ⟨rfl, rfl⟩)
end ZA
