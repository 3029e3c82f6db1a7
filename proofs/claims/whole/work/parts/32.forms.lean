/-! the forms: pure, and the class's -/
def zBl (lk : Nat → Option Nat) (row : List Nat) : Option Nat := match row[row.length - 1]? with
  | none => none
  | some u => lk (2 * u)
def zLb (lk : Nat → Option Nat) : Option Nat → List Nat → Bool
  | _, [] => true
  | a, u :: row => decide (lk (2 * u + 1) = a) && zLb lk (some u) row
def zNf (ks : Nat → Int32) : Option Nat → List Nat → Bool
  | _, [] => true
  | none, u :: row => zNf ks (some u) row
  | some p, u :: row => decide (¬ ks u < ks p) && zNf ks (some u) row
def zTi (lk : Nat → Option Nat) (u : Nat) : Nat → Nat → List Nat → Option (List Nat)
  | 0, _, seen => some seen
  | d + 1, f, seen => match lk (2 * u + f) with
    | none => zTi lk u d (f + 1) seen
    | some t => if t ∈ seen then none else zTi lk u d (f + 1) (t :: seen)
def zTo (lk : Nat → Option Nat) : List Nat → List Nat → Bool
  | [], _ => true
  | u :: row, seen => match zTi lk u 2 0 seen with
    | none => false
    | some s => zTo lk row s
def zForm (S : zS) (o : Option Nat) (F : Nat) : Bool := match F with
  | 0 => decide (o = none)
  | 1 => decide (zBl S.2.2.1 (zRch S o 1) = none)
  | 2 => decide (zBl S.2.2.1 (zRch S o 1) = none) && zLb S.2.2.1 none (zRch S o 1)
  | 3 => decide (¬ o = none ∧ zBl S.2.2.1 (zRch S o 1) = o)
  | 4 => zTo S.2.2.1 (zRch S o 2) o.toList
  | 5 => decide (zBl S.2.2.1 (zRch S o 1) = none) && zNf S.2.1 none (zRch S o 1)
  | _ => true
theorem zInn_at {lk : Nat → Option Nat} {u k w : Nat} : ∀ (d f : Nat) (row : List Nat), row[k]? = some w → (zInn lk u d f row)[k]? = some w
  | 0, _, _, h => h
  | d + 1, f, row, h => zInn_at d (f + 1) _ (zOne_at h)
theorem zBfs_at {lk : Nat → Option Nat} {g k w : Nat} : ∀ (n j : Nat) (row : List Nat), row[k]? = some w → (zBfs lk g n j row)[k]? = some w
  | 0, _, _, h => h
  | n + 1, j, row, h => by
    unfold zBfs
    split
    · exact zBfs_at n (j + 1) _ (zInn_at g 0 row h)
    · exact h
theorem zRch_0 (S : zS) (o : Option Nat) (g : Nat) : (zRch S o g)[0]? = o := by
  cases o with
  | none => rfl
  | some t => exact zBfs_at 25 0 _ (by simp [zOne])
theorem zRch_nil {S : zS} {o : Option Nat} {g : Nat} : (zRch S o g).length = 0 ↔ o = none := by
  have h := zRch_0 S o g
  constructor
  · intro e
    rw [List.length_eq_zero_iff.mp e] at h
    exact h.symm
  · rintro rfl
    rfl
section ZA
variable {L : Nat} {M : za_M} {Q : Int32 → za_M → Prop} {h : Nat}
theorem s17 (hH : za_H h) {S : zS} (hS : zC M h S) (hK : zK S) {row : List Nat} (hG : zG S.1 row) (hR : zRw M (h + 4) (h + 5) row) : zT L 17 0 [.ref h, .int (nI row.length)] [] M Q ↔ Q (zE (zBl S.2.2.1 row)) M := by
  have h24 := hK.1
  have hlen := zG_len hG
  cases hu : row[row.length - 1]? with
  | none =>
    have hl : row.length = 0 := by
      have := List.getElem?_eq_none_iff.mp hu
      omega
    have hz : zBl S.2.2.1 row = none := by unfold zBl; rw [hu]
    have e1 : nI 0 ≤ 0 := by decide
    rw [hz, hl]
    simp only [q17_0, q17_1, q17_4, q17_5, q17_7, q17_10, q17_11, q17_12, q17_15, q17_16, q17_17, q17_18, q17_19, q17_20, q17_23, q17_26, q17_28, e1, if_true, zE_n]
  | some u =>
    have hl := (List.getElem?_eq_some_iff.mp hu).1
    have hun := hG.2 u (List.mem_of_getElem? hu)
    have hz : zBl S.2.2.1 row = S.2.2.1 (2 * u) := by unfold zBl; rw [hu]
    have e1 : ¬ nI row.length ≤ 0 := nI_nle (by omega) (by omega)
    have e2 : ¬ nI 24 < nI row.length := nI_nlt (by omega) (by omega)
    have e3 : nI row.length - nI 1 = nI (row.length - 1) := pk_sub (by omega)
    have e4 : za_in L (h + 4) false (nI (row.length - 1)) := za_in_of (za_Hk hH).2.2.2.1 (by omega) (by omega)
    have e5 : (nI (row.length - 1)).toNatClampNeg = row.length - 1 := nI_clamp (by omega)
    have e6 := hR.1 _ u hu
    have e7 := hS.2.2.1 (2 * u + 0) (by omega)
    rw [hz]
    simp only [q17_0, q17_1, q17_4, q17_5, q17_7, q17_10, q17_11, q17_12, q17_15, q17_16, q17_17, q17_18, q17_19, q17_20, q17_23, q17_26, q17_28, hH, e1, e2, e3, e4, e5, e6, if_false, true_and, s9 hH hS.1 h24 hun (show 0 < 2 by omega), e7]
    exact Iff.rfl
theorem zBl_lt {S : zS} (hK : zK S) {row : List Nat} (hG : zG S.1 row) : ∀ k, zBl S.2.2.1 row = some k → k < 2 ^ 31 := by
  intro k hk
  unfold zBl at hk
  split at hk
  · cases hk
  · rename_i u hu
    have h1 := hG.2 u (List.mem_of_getElem? hu)
    have h2 := hK.2.1 (2 * u) (by omega) k hk
    have := hK.1
    omega
theorem s18 (hH : za_H h) {S : zS} (hS : zC M h S) (hK : zK S) {row : List Nat} (hG : zG S.1 row) (hR : zRw M (h + 4) (h + 5) row) : zT L 18 0 [.ref h, .int (nI row.length)] [] M Q ↔ Q (zB (zBl S.2.2.1 row = none)) M := by
  have e1 := zE_N (zBl_lt hK hG)
  simp only [q18_0, q18_1, q18_2, q18_5, q18_7, q18_10, q18_11, q18_14, q18_15, hH, s17 hH hS hK hG hR, zb1, zb0]
  by_cases e : zBl S.2.2.1 row = none
  · rw [if_pos (e1.mpr e), zB_t e]
  · rw [if_neg (fun q => e (e1.mp q)), zB_f e]
theorem s19 (hH : za_H h) {S : zS} (hS : zC M h S) (hK : zK S) {row : List Nat} (hG : zG S.1 row) (hR : zRw M (h + 4) (h + 5) row) : zT L 19 0 [.ref h, .int (nI row.length)] [] M Q ↔ Q (zB (¬ row[0]? = none ∧ zBl S.2.2.1 row = row[0]?)) M := by
  have h24 := hK.1
  have hlen := zG_len hG
  cases hu : row[0]? with
  | none =>
    have hl : row.length = 0 := by
      have := List.getElem?_eq_none_iff.mp hu
      omega
    have e1 : nI 0 ≤ 0 := by decide
    rw [hl, zB_f (by simp)]
    simp only [q19_0, q19_1, q19_4, q19_5, q19_6, q19_9, q19_10, q19_13, q19_14, q19_15, q19_18, q19_19, q19_22, q19_23, e1, if_true, zb0]
  | some u =>
    have hl := (List.getElem?_eq_some_iff.mp hu).1
    have hun := hG.2 u (List.mem_of_getElem? hu)
    have e1 : ¬ nI row.length ≤ 0 := nI_nle (by omega) (by omega)
    have e4 : za_in L (h + 4) false (nI 0) := za_in_of (za_Hk hH).2.2.2.1 (by omega) (by omega)
    have e5 : (nI 0).toNatClampNeg = 0 := nI_clamp (by omega)
    have e6 := hR.1 0 u hu
    have e7 := zE_inj (zBl_lt hK hG) (p := some u) (fun k hk => by cases hk; omega)
    rw [zE_s] at e7
    simp only [q19_0, q19_1, q19_4, q19_5, q19_6, q19_9, q19_10, q19_13, q19_14, q19_15, q19_18, q19_19, q19_22, q19_23, hH, e1, e4, e5, e6, if_false, true_and, s17 hH hS hK hG hR, zb1, zb0]
    by_cases e : zBl S.2.2.1 row = some u
    · rw [if_pos (e7.mpr e), zB_t ⟨by simp, e⟩]
    · rw [if_neg (fun q => e (e7.mp q)), zB_f (fun q => e q.2)]
theorem zDrop {row suf : List Nat} {i u : Nat} (h : row.drop i = u :: suf) : row[i]? = some u ∧ row.drop (i + 1) = suf ∧ i < row.length := by
  have h1 : row[i]? = some u := by rw [← List.head?_drop, h]; rfl
  refine ⟨h1, ?_, (List.getElem?_eq_some_iff.mp h1).1⟩
  rw [← List.drop_drop, h]
  rfl
theorem s20_loop (hH : za_H h) {S : zS} (hS : zC M h S) (hK : zK S) {row : List Nat} (hG : zG S.1 row) (hR : zRw M (h + 4) (h + 5) row) : ∀ (suf : List Nat) (i : Nat) (a : Option Nat), row.drop i = suf → i ≤ row.length → (∀ k, a = some k → k < 2 ^ 31) → (zT L 20 5 [.ref h, .int (nI row.length), .int (zE a), .int (nI i)] [] M Q ↔ Q (zB (zLb S.2.2.1 a suf = true)) M) := by
  have h24 := hK.1
  have hlen := zG_len hG
  intro suf
  induction suf with
  | nil =>
    intro i a hd hi ha
    have hil : row.length ≤ i := List.drop_eq_nil_iff.mp hd
    have e1 : nI row.length ≤ nI i := nI_le hil (by omega)
    rw [q20_5, q20_6, q20_7, if_pos e1]
    simp only [q20_46, q20_47, zb1]
    rw [zB_t (show zLb S.2.2.1 a [] = true by simp [zLb])]
  | cons u suf ih =>
    intro i a hd hi ha
    obtain ⟨hu, hd', hil⟩ := zDrop hd
    have hun := hG.2 u (List.mem_of_getElem? hu)
    have e1 : ¬ nI row.length ≤ nI i := nI_ge hil (by omega)
    have e2 : ¬ nI 24 ≤ nI i := nI_ge (by omega) (by omega)
    have e3 : (nI i).toNatClampNeg = i := nI_clamp (by omega)
    have e4 : za_in L (h + 4) false (nI i) := za_in_of (za_Hk hH).2.2.2.1 (by omega) (by omega)
    have e5 := hR.1 i u hu
    have e6 := hS.2.2.1 (2 * u + 1) (by omega)
    have e7 := zE_inj (o := S.2.2.1 (2 * u + 1)) (p := a) (fun k hk => by have := hK.2.1 _ (show 2 * u + 1 < 2 * S.1 by omega) k hk; omega) ha
    have e8 := ih (i + 1) (some u) hd' hil (fun k hk => by cases hk; omega)
    rw [zE_s] at e8
    rw [q20_5, q20_6, q20_7, if_neg e1, q20_10, q20_11, q20_13, if_neg e2]
    simp only [q20_16, q20_17, q20_18, q20_21, q20_22, q20_23, q20_24, q20_27, q20_28, q20_31, q20_32, q20_33, q20_34, q20_37, q20_38, q20_39, q20_40, q20_43, hH, e3, e4, e5, true_and, s9 hH hS.1 h24 hun (show 1 < 2 by omega), e6, e7, nI_add, e8, zb0]
    by_cases e : S.2.2.1 (2 * u + 1) = a
    · rw [if_pos e]
      have : zLb S.2.2.1 a (u :: suf) = zLb S.2.2.1 (some u) suf := by simp [zLb, e]
      rw [this]
    · rw [if_neg e]
      have : zLb S.2.2.1 a (u :: suf) = false := by simp [zLb, e]
      rw [this, zB_f (by simp)]
theorem s20 (hH : za_H h) {S : zS} (hS : zC M h S) (hK : zK S) {row : List Nat} (hG : zG S.1 row) (hR : zRw M (h + 4) (h + 5) row) : zT L 20 0 [.ref h, .int (nI row.length), .null, .null] [] M Q ↔ Q (zB (zLb S.2.2.1 none row = true)) M := by
  simp only [q20_0, q20_2, q20_3, q20_4]
  exact s20_loop hH hS hK hG hR row 0 none rfl (Nat.zero_le _) (fun k hk => by cases hk)
theorem s21_loop (hH : za_H h) {S : zS} (hS : zC M h S) (hK : zK S) {row : List Nat} (hG : zG S.1 row) (hR : zRw M (h + 4) (h + 5) row) : ∀ (suf : List Nat) (i p : Nat), row.drop (i + 1) = suf → row[i]? = some p → (zT L 21 2 [.ref h, .int (nI row.length), .int (nI (i + 1))] [] M Q ↔ Q (zB (zNf S.2.1 (some p) suf = true)) M) := by
  have h24 := hK.1
  have hlen := zG_len hG
  intro suf
  induction suf with
  | nil =>
    intro i p hd hp
    have hil : row.length ≤ i + 1 := List.drop_eq_nil_iff.mp hd
    have hi := (List.getElem?_eq_some_iff.mp hp).1
    have e1 : nI row.length ≤ nI (i + 1) := nI_le hil (by omega)
    rw [q21_2, q21_3, q21_4, if_pos e1]
    simp only [q21_46, q21_47, zb1]
    rw [zB_t (show zNf S.2.1 (some p) [] = true by simp [zNf])]
  | cons u suf ih =>
    intro i p hd hp
    obtain ⟨hu, hd', hil⟩ := zDrop hd
    have hun := hG.2 u (List.mem_of_getElem? hu)
    have hpn := hG.2 p (List.mem_of_getElem? hp)
    have e1 : ¬ nI row.length ≤ nI (i + 1) := nI_ge hil (by omega)
    have e2 : ¬ nI 24 ≤ nI (i + 1) := nI_ge (by omega) (by omega)
    have e3 : (nI (i + 1)).toNatClampNeg = i + 1 := nI_clamp (by omega)
    have e4 : za_in L (h + 4) false (nI (i + 1)) := za_in_of (za_Hk hH).2.2.2.1 (by omega) (by omega)
    have e3' : (nI i).toNatClampNeg = i := nI_clamp (by omega)
    have e4' : za_in L (h + 4) false (nI i) := za_in_of (za_Hk hH).2.2.2.1 (by omega) (by omega)
    have e5 := hR.1 (i + 1) u hu
    have e5' := hR.1 i p hp
    have e6 := hS.2.1 u hun
    have e6' := hS.2.1 p hpn
    have e8 := ih (i + 1) u hd' hu
    rw [q21_2, q21_3, q21_4, if_neg e1, q21_7, q21_8, q21_10, if_neg e2]
    simp only [q21_13, q21_14, q21_15, q21_18, q21_19, q21_20, q21_23, q21_24, q21_25, q21_28, q21_29, q21_30, q21_31, q21_32, q21_35, q21_38, q21_39, q21_40, q21_43, hH, e3, e4, e5, e3', e4', e5', nI_m1, true_and, s7 hH hS.1 h24 hun, s7 hH hS.1 h24 hpn, e6, e6', nI_add, e8, zb0]
    by_cases e : S.2.1 u < S.2.1 p
    · rw [if_neg (Int32.not_le.mpr e)]
      have : zNf S.2.1 (some p) (u :: suf) = false := by simp [zNf, e]
      rw [this, zB_f (by simp)]
    · rw [if_pos (Int32.not_lt.mp e)]
      have : zNf S.2.1 (some p) (u :: suf) = zNf S.2.1 (some u) suf := by simp [zNf, e]
      rw [this]
theorem s21 (hH : za_H h) {S : zS} (hS : zC M h S) (hK : zK S) {row : List Nat} (hG : zG S.1 row) (hR : zRw M (h + 4) (h + 5) row) : zT L 21 0 [.ref h, .int (nI row.length), .null] [] M Q ↔ Q (zB (zNf S.2.1 none row = true)) M := by
  simp only [q21_0, q21_1]
  cases row with
  | nil =>
    have e1 : nI 0 ≤ nI 1 := by decide
    rw [q21_2, q21_3, q21_4, List.length_nil, if_pos e1]
    simp only [q21_46, q21_47, zb1]
    rw [zB_t (show zNf S.2.1 none [] = true by simp [zNf])]
  | cons p suf => exact s21_loop hH hS hK hG hR suf 0 p rfl rfl
end ZA
