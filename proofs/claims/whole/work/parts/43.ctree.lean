/-! starts that are trees: pure, and the class's build of them -/
def zPush (i dg : Nat) (st : List Nat) : List Nat := (if dg / 2 % 2 = 1 then [2 * i] else []) ++ ((if dg % 2 = 1 then [2 * i + 1] else []) ++ st)
def zTd (fl : Nat → Nat) : Nat → Nat → List Nat → List (Option Nat) → Option (List (Option Nat))
  | 0, _, st, lk => if st = [] then some lk else none
  | d + 1, i, st, lk => if i = 0 then zTd fl d 1 (zPush 0 (fl 0) st) (lk ++ [none, none]) else match st with
    | [] => none
    | p :: st' => zTd fl d (i + 1) (zPush i (fl i) st') (lk.set p (some i) ++ [none, none])
def zDr (k r i : Nat) : Nat := r / 4 ^ (k - 1 - i) % 4
def zLf (l : List (Option Nat)) : Nat → Option Nat := fun j => l.getD j none
def zTrc (k r : Nat) : Option (List (Option Nat)) := zTd (zDr k r) k 0 [] []
/-- the waiting places, the next one on top -/
def zSk (M : za_M) (cell : Nat) (st : List Nat) : Prop := ∀ j p, st[j]? = some p → M cell (st.length - 1 - j) = nI p
theorem zSk_push {M : za_M} {cell : Nat} {st : List Nat} (h : zSk M cell st) (p : Nat) : zSk (za_up M cell st.length (nI p)) cell (p :: st) := by
  intro j q hj
  cases j with
  | zero =>
    cases hj
    simp only [List.length_cons]
    rw [show st.length + 1 - 1 - 0 = st.length by omega, za_up_same]
  | succ j =>
    have hl : j < st.length := by
      have := (List.getElem?_eq_some_iff.mp hj).1
      simp only [List.length_cons] at this
      omega
    simp only [List.length_cons]
    rw [za_up_oi (by omega), show st.length + 1 - 1 - (j + 1) = st.length - 1 - j by omega]
    exact h j q hj
theorem zSk_pop {M : za_M} {cell p : Nat} {st : List Nat} (h : zSk M cell (p :: st)) : M cell st.length = nI p ∧ zSk M cell st := by
  refine ⟨?_, fun j q hj => ?_⟩
  · have := h 0 p rfl
    simp only [List.length_cons] at this
    rw [show st.length + 1 - 1 - 0 = st.length by omega] at this
    exact this
  · have := h (j + 1) q hj
    simp only [List.length_cons] at this
    rw [show st.length + 1 - 1 - (j + 1) = st.length - 1 - j by omega] at this
    exact this
theorem zSk_cg {M M' : za_M} {cell : Nat} {st : List Nat} (h : zSk M cell st) (e : M' cell = M cell) : zSk M' cell st := by
  unfold zSk
  rw [e]
  exact h
theorem zPush_len {i dg : Nat} {st : List Nat} : (zPush i dg st).length ≤ st.length + 2 := by
  unfold zPush
  split <;> split <;> simp <;> omega
theorem zPush_lt {i dg : Nat} {st : List Nat} {b : Nat} (hb : 2 * i + 2 ≤ b) (h : ∀ p ∈ st, p < b) : ∀ p ∈ zPush i dg st, p < b := by
  intro p hp
  unfold zPush at hp
  rcases List.mem_append.mp hp with q | q
  · split at q
    · rw [List.mem_singleton.mp q]; omega
    · exact absurd q List.not_mem_nil
  · rcases List.mem_append.mp q with q | q
    · split at q
      · rw [List.mem_singleton.mp q]; omega
      · exact absurd q List.not_mem_nil
    · exact h p q
section ZA
variable {L : Nat} {M : za_M} {Q : Int32 → za_M → Prop} {h : Nat}
theorem s53 {p c : Nat} (hc : c < 10) : zT L 53 0 [.ref 12, .int (nI p), .int (nI c)] [] M Q ↔ Q (nI (c + 1)) (za_up M 13 c (nI p)) := by
  have e1 : ¬ nI c < 0 := nI_pos (by omega)
  have e2 : nI c < nI 10 := nI_lt hc (by omega)
  have e3 : za_in L 13 false (nI c) := za_in_of (n := 10) rfl hc (by omega)
  have e4 : (nI c).toNatClampNeg = c := nI_clamp (by omega)
  simp only [q53_0, q53_1, q53_4, q53_5, q53_6, q53_9, q53_10, q53_13, q53_14, q53_15, q53_16, q53_19, q53_20, q53_21, q53_22, q53_23, q53_24, q53_25, e1, e2, e3, e4, if_false, if_true, true_and, nI_add, Nat.reduceLT]
theorem s52 {i dg : Nat} {st : List Nat} (hdg : dg < 4) (hst : st.length ≤ 6) (hs : zSk M 13 st) : zT L 52 0 [.ref 12, .int (nI i), .int (nI dg), .int (nI st.length), .null] [] M (fun r M' => r = nI (zPush i dg st).length ∧ zSk M' 13 (zPush i dg st) ∧ ∀ c, c ≠ 13 → M' c = M c) := by
  have h1 : st.length < 10 := by omega
  have h2 : st.length + 1 < 10 := by omega
  have key : dg = 0 ∨ dg = 1 ∨ dg = 2 ∨ dg = 3 := by omega
  rcases key with rfl | rfl | rfl | rfl
  · have a1 : nI 0 &&& nI 1 = 0 := by decide
    have a2 : nI 0 &&& nI 2 = 0 := by decide
    simp only [q52_0, q52_1, q52_3, q52_4, q52_5, q52_6, q52_9, q52_10, q52_11, q52_12, q52_13, q52_14, q52_15, q52_17, q52_20, q52_22, q52_23, q52_24, q52_25, q52_28, q52_29, q52_30, q52_31, q52_32, q52_34, q52_37, q52_39, q52_41, a1, a2, if_true]
    exact ⟨rfl, hs, fun _ _ => True.intro⟩
  · have a1 : ¬ nI 1 &&& nI 1 = 0 := by decide
    have a2 : nI 1 &&& nI 2 = 0 := by decide
    simp only [q52_0, q52_1, q52_3, q52_4, q52_5, q52_6, q52_9, q52_10, q52_11, q52_12, q52_13, q52_14, q52_15, q52_17, q52_20, q52_22, q52_23, q52_24, q52_25, q52_28, q52_29, q52_30, q52_31, q52_32, q52_34, q52_37, q52_39, q52_41, a1, a2, if_true, if_false, pk_mul, nI_add, s53 h1]
    exact ⟨rfl, zSk_push hs _, fun c hc => za_up_ne hc⟩
  · have a1 : nI 2 &&& nI 1 = 0 := by decide
    have a2 : ¬ nI 2 &&& nI 2 = 0 := by decide
    simp only [q52_0, q52_1, q52_3, q52_4, q52_5, q52_6, q52_9, q52_10, q52_11, q52_12, q52_13, q52_14, q52_15, q52_17, q52_20, q52_22, q52_23, q52_24, q52_25, q52_28, q52_29, q52_30, q52_31, q52_32, q52_34, q52_37, q52_39, q52_41, a1, a2, if_true, if_false, pk_mul, nI_add, s53 h1]
    exact ⟨rfl, zSk_push hs _, fun c hc => za_up_ne hc⟩
  · have a1 : ¬ nI 3 &&& nI 1 = 0 := by decide
    have a2 : ¬ nI 3 &&& nI 2 = 0 := by decide
    simp only [q52_0, q52_1, q52_3, q52_4, q52_5, q52_6, q52_9, q52_10, q52_11, q52_12, q52_13, q52_14, q52_15, q52_17, q52_20, q52_22, q52_23, q52_24, q52_25, q52_28, q52_29, q52_30, q52_31, q52_32, q52_34, q52_37, q52_39, q52_41, a1, a2, if_false, pk_mul, nI_add, s53 h1, s53 h2]
    exact ⟨rfl, zSk_push (zSk_push hs _) _, fun c hc => by rw [za_up_ne hc, za_up_ne hc]⟩
theorem s51 {r k i : Nat} (hr : r < 1024) (hk : k ≤ 5) (hi : i < k) : zT L 51 0 [.int (nI r), .int (nI k), .int (nI i)] [] M Q ↔ Q (nI (zDr k r i)) M := by
  have e1 : nI k - nI 1 = nI (k - 1) := pk_sub (by omega)
  have e2 : nI (k - 1) - nI i = nI (k - 1 - i) := pk_sub (by omega)
  have e3 : nI r >>> (nI (2 * (k - 1 - i)) &&& 31) = nI (r / 4 ^ (k - 1 - i)) := by
    have hd : k - 1 - i < 5 := by omega
    generalize k - 1 - i = d at hd
    have h4 : 4 ^ d = 2 ^ (2 * d) := by rw [Nat.pow_mul]
    rw [h4]
    refine pk_shrN (by omega) _ (2 * d) ?_
    have hd5 : d = 0 ∨ d = 1 ∨ d = 2 ∨ d = 3 ∨ d = 4 := by omega
    rcases hd5 with rfl | rfl | rfl | rfl | rfl <;> decide
  have e4 : nI (r / 4 ^ (k - 1 - i)) &&& nI 3 = nI (zDr k r i) := by
    have h5 : r / 4 ^ (k - 1 - i) ≤ r := Nat.div_le_self _ _
    exact pk_andN (by omega) 2 (by decide)
  simp only [q51_0, q51_1, q51_2, q51_3, q51_4, q51_5, q51_6, q51_7, q51_8, q51_9, q51_10, q51_11, e1, e2, pk_mul, e3, e4]
theorem zLf_app {l : List (Option Nat)} {j : Nat} : zLf (l ++ [none, none]) j = if j < l.length then zLf l j else none := by
  unfold zLf
  rw [List.getD_eq_getElem?_getD, List.getD_eq_getElem?_getD]
  by_cases e : j < l.length
  · rw [if_pos e, List.getElem?_append_left e]
  · rw [if_neg e, List.getElem?_append_right (by omega)]
    by_cases q : j - l.length = 0
    · rw [q]; rfl
    · by_cases q1 : j - l.length = 1
      · rw [q1]; rfl
      · rw [List.getElem?_eq_none (by simp; omega)]; rfl
theorem zLf_set {l : List (Option Nat)} {p j : Nat} {o : Option Nat} (hp : p < l.length) : zLf (l.set p o) j = if j = p then o else zLf l j := by
  unfold zLf
  rw [List.getD_eq_getElem?_getD, List.getD_eq_getElem?_getD]
  by_cases e : j = p
  · subst e
    rw [if_pos rfl, List.getElem?_set_self hp]
    rfl
  · rw [if_neg e, List.getElem?_set_ne (Ne.symm e)]
set_option maxHeartbeats 2000000 in
theorem s50_loop (hH : za_H h) {k r : Nat} (hk : k ≤ 5) (hr : r < 1024) {vs : Nat → Option Nat} : ∀ (d i : Nat), d + i = k → ∀ (st : List Nat) (lk : List (Option Nat)) (M : za_M) (l6 : Value), zC M h (i, fun _ => nI 0, zLf lk, vs) → lk.length = 2 * i → zSk M 13 st → st.length ≤ i + 1 → (i = 0 → st = []) → (∀ p ∈ st, p < 2 * i) →
    zT L 50 6 [.ref 12, .ref h, .int (nI k), .int (nI r), .int (nI st.length), .int (nI i), l6] [] M (fun res M' => res = zB ((zTd (zDr k r) d i st lk).isSome = true) ∧ (∀ l, zTd (zDr k r) d i st lk = some l → zC M' h (k, fun _ => nI 0, zLf l, vs)) ∧ ∀ c, c ≠ h → c ≠ h + 1 → c ≠ h + 2 → c ≠ 13 → M' c = M c) := by
  have hh := (za_Hk (L := L) hH)
  have hne : h ≠ 13 ∧ h + 1 ≠ 13 ∧ h + 2 ≠ 13 ∧ h + 3 ≠ 13 := by rcases hH with rfl | rfl | rfl <;> omega
  intro d
  induction d with
  | zero =>
    intro i hd st lk M l6 hS hl hs hsl hs0 hpl
    have hik : i = k := by omega
    subst hik
    rw [q50_6, q50_8, q50_9, if_pos (Int32.le_refl _)]
    rw [q50_89, q50_91]
    by_cases e : st = []
    · subst e
      have hz : zTd (zDr i r) 0 i [] lk = some lk := by unfold zTd; exact if_pos rfl
      rw [hz, List.length_nil, if_pos (by decide)]
      simp only [q50_94, q50_95, q50_98, q50_99, zb1]
      exact ⟨(zB_t rfl).symm, fun l hl' => (by cases hl'; exact hS), fun _ _ _ _ _ => True.intro⟩
    · have hz : zTd (zDr i r) 0 i st lk = none := by unfold zTd; exact if_neg e
      have hpos : 0 < st.length := by
        cases st with
        | nil => exact absurd rfl e
        | cons a b => simp
      rw [hz, if_neg (nI_ne0 hpos (by omega))]
      simp only [q50_98, q50_99, zb0]
      exact ⟨(zB_f (by simp)).symm, fun l hl' => (by cases hl'), fun _ _ _ _ _ => True.intro⟩
  | succ d ih =>
    intro i hd st lk M l6 hS hl hs hsl hs0 hpl
    have hik : i < k := by omega
    have e1 : ¬ nI k ≤ nI i := nI_ge hik (by omega)
    have hdg : zDr k r i < 4 := Nat.mod_lt _ (by decide)
    rw [q50_6, q50_8, q50_9, if_neg e1]
    simp only [q50_12, q50_13, q50_14, q50_17, hH, s6 hH hS.1 (show i < 24 by omega)]
    have hA0 := zC_add (key := nI 0) hS
    have hA : zC (zAdd M h i (nI 0)) h (i + 1, fun _ => nI 0, zLf (lk ++ [none, none]), vs) := by
      refine zV_ext hA0 rfl (fun j hj => ?_) (fun j hj => ?_) (fun _ _ => rfl)
      · show nI 0 = if j = i then nI 0 else nI 0
        split <;> rfl
      · show zLf (lk ++ [none, none]) j = if j = 2 * i ∨ j = 2 * i + 1 then none else zLf lk j
        have hj : j < 2 * (i + 1) := hj
        rw [zLf_app]
        by_cases q : j < lk.length
        · rw [if_pos q, if_neg (by omega)]
        · rw [if_neg q, if_pos (by omega)]
    have hfA : ∀ c, c ≠ h → c ≠ h + 1 → c ≠ h + 2 → zAdd M h i (nI 0) c = M c := fun c a b c' => zAdd_ne a b c'
    have hsA : zSk (zAdd M h i (nI 0)) 13 st := zSk_cg hs (hfA 13 (Ne.symm hne.1) (Ne.symm hne.2.1) (Ne.symm hne.2.2.1))
    have rest : ∀ (st' : List Nat) (lk' : List (Option Nat)) (M1 : za_M) (l6 : Value), zC M1 h (i + 1, fun _ => nI 0, zLf (lk' ++ [none, none]), vs) → lk'.length = 2 * i → zSk M1 13 st' → st'.length ≤ i → (∀ p ∈ st', p < 2 * i) → zTd (zDr k r) (d + 1) i st lk = zTd (zDr k r) d (i + 1) (zPush i (zDr k r i) st') (lk' ++ [none, none]) → (∀ c, c ≠ h → c ≠ h + 1 → c ≠ h + 2 → c ≠ 13 → M1 c = M c) →
        zT L 50 66 [.ref 12, .ref h, .int (nI k), .int (nI r), .int (nI st'.length), .int (nI i), l6] [] M1 (fun res M' => res = zB ((zTd (zDr k r) (d + 1) i st lk).isSome = true) ∧ (∀ l, zTd (zDr k r) (d + 1) i st lk = some l → zC M' h (k, fun _ => nI 0, zLf l, vs)) ∧ ∀ c, c ≠ h → c ≠ h + 1 → c ≠ h + 2 → c ≠ 13 → M' c = M c) := by
      intro st' lk' M1 l6 hS1 hl1 hs1 hsl1 hpl1 hz hf
      rw [hz]
      simp only [q50_66, q50_67, q50_69, q50_70, q50_71, q50_73, q50_76, q50_78, s51 hr hk hik]
      refine zT_mono (s52 hdg (by omega) hs1) ?_
      rintro r2 M2 ⟨rfl, b2, c2⟩
      simp only [q50_81, q50_83, q50_86, nI_add]
      have hp2 := zPush_len (i := i) (dg := zDr k r i) (st := st')
      refine zT_mono (ih (i + 1) (by omega) _ _ M2 _ (zV_cg hS1 (c2 h hne.1) (c2 (h + 1) hne.2.1) (c2 (h + 2) hne.2.2.1) (c2 (h + 3) hne.2.2.2)) (by simp [hl1]; omega) b2 (by omega) (fun q => by omega) (zPush_lt (by omega) (fun p hp => by have := hpl1 p hp; omega))) ?_
      rintro r3 M3 ⟨a3, b3, c3⟩
      exact ⟨a3, b3, fun c w1 w2 w3 w4 => by rw [c3 c w1 w2 w3 w4, c2 c w4, hf c w1 w2 w3 w4]⟩
    rw [q50_18, q50_20]
    by_cases hi0 : i = 0
    · have hst := hs0 hi0
      subst hst
      have hz : zTd (zDr k r) (d + 1) i [] lk = zTd (zDr k r) d (i + 1) (zPush i (zDr k r i) []) (lk ++ [none, none]) := by
        conv => lhs; unfold zTd
        rw [if_pos hi0, hi0]
      rw [if_pos (show nI i ≤ 0 by rw [hi0]; decide)]
      exact rest [] lk _ _ hA hl hsA (by simp) hpl hz (fun c w1 w2 w3 _ => hfA c w1 w2 w3)
    · rw [if_neg (nI_nle (by omega) (by omega)), q50_23, q50_25]
      cases st with
      | nil =>
        have hz : zTd (zDr k r) (d + 1) i [] lk = none := by
          unfold zTd
          rw [if_neg hi0]
        rw [List.length_nil, if_pos (by decide), hz]
        simp only [q50_38, q50_39, zb0]
        exact ⟨(zB_f (by simp)).symm, fun l hl' => (by cases hl'), fun c w1 w2 w3 _ => hfA c w1 w2 w3⟩
      | cons p st =>
        obtain ⟨t1, t2⟩ := zSk_pop hsA
        have hp := hpl p List.mem_cons_self
        have hlen : st.length + 1 ≤ i + 1 := by simpa using hsl
        have hz : zTd (zDr k r) (d + 1) i (p :: st) lk = zTd (zDr k r) d (i + 1) (zPush i (zDr k r i) st) (lk.set p (some i) ++ [none, none]) := by
          conv => lhs; unfold zTd
          rw [if_neg hi0]
        have g1 : ¬ nI (p :: st).length ≤ 0 := nI_nle (by simp) (by simp; omega)
        have g7 : nI (p :: st).length ≤ nI 10 := nI_le (by simp; omega) (by omega)
        have g2 : nI (p :: st).length + -1 = nI st.length := pk_m1 st.length
        have g3 : za_in L 13 false (nI st.length) := za_in_of (n := 10) rfl (by omega) (by omega)
        have g4 : (nI st.length).toNatClampNeg = st.length := nI_clamp (by omega)
        have g5 : nI p / nI 2 = nI (p / 2) := pk_div (by omega) (by omega) (by omega)
        have g6 : nI p - nI (p / 2) * nI 2 = nI (p % 2) := by rw [← g5]; exact pk_rem (by omega) (by omega) (by omega)
        have n2 : ¬ nI 2 = 0 := by decide
        have hidx : 2 * (p / 2) + p % 2 = p := by omega
        rw [if_neg g1, q50_28, q50_30, q50_31, q50_34, q50_35, if_pos g7]
        simp only [q50_40, q50_43, q50_44, q50_47, q50_49, q50_50, q50_52, q50_53, q50_55, q50_56, q50_57, q50_59, q50_60, q50_61, q50_63, hH, g2, g3, g4, t1, true_and, n2, not_false_eq_true, g5, g6, s10 hH hA.1 (show i + 1 ≤ 24 by omega) (show p / 2 < i + 1 by omega) (show p % 2 < 2 by omega), hidx]
        have hB := zV_link (zAp_C h) hA p (some i)
        refine rest st (lk.set p (some i)) _ _ (zV_ext hB rfl (fun _ _ => rfl) (fun j hj => ?_) (fun _ _ => rfl)) (by rw [List.length_set]; exact hl) (zSk_cg t2 (za_up_ne (Ne.symm hne.2.2.1))) (by omega) (fun q hq => hpl q (List.mem_cons_of_mem _ hq)) hz (fun c w1 w2 w3 _ => by rw [show zE (some i) = nI i from rfl] at *; rw [za_up_ne w3, hfA c w1 w2 w3])
        show zLf (lk.set p (some i) ++ [none, none]) j = if j = p then some i else zLf (lk ++ [none, none]) j
        rw [zLf_app, zLf_app, List.length_set, zLf_set (by omega)]
        by_cases q : j = p
        · rw [if_pos q, if_pos q, if_pos (by omega)]
        · rw [if_neg q, if_neg q]
theorem s50 (hH : za_H h) {k r : Nat} (hk : k ≤ 5) (hr : r < 1024) {ks0 : Nat → Int32} {lk0 vs : Nat → Option Nat} (hS : zC M h (0, ks0, lk0, vs)) : zT L 50 0 [.ref 12, .ref h, .int (nI k), .int (nI r), .null, .null, .null] [] M (fun res M' => res = zB ((zTrc k r).isSome = true) ∧ (∀ l, zTrc k r = some l → zC M' h (k, fun _ => nI 0, zLf l, vs)) ∧ ∀ c, c ≠ h → c ≠ h + 1 → c ≠ h + 2 → c ≠ 13 → M' c = M c) := by
  simp only [q50_0, q50_1, q50_3, q50_4]
  exact s50_loop (st := []) hH hk hr k 0 rfl [] M _ (zV_ext hS rfl (fun j hj => absurd hj (by show ¬ j < 0; omega)) (fun j hj => absurd hj (by show ¬ j < 2 * 0; omega)) (fun _ _ => rfl)) rfl (fun j p hj => by simp at hj) (by simp) (fun _ => rfl) (fun p hp => absurd hp List.not_mem_nil)
/-- the starts of a claim, by form, size and row: the heap, if the row is one -/
def zStart (F v k r : Nat) : Option zS := if F = 4 then (zTrc k r).map (fun l => (k, fun _ => nI 0, zLf l, zHv v k)) else (if zVal F k r = true then some (k, fun j => nI (zDg k r j), zLk F k, zHv v k) else none)
theorem s47 (hH : za_H h) {F v k r : Nat} (hF : 1 ≤ F ∧ F ≤ 5) (hv : v < 8) (hk : k ≤ 5) (h3 : F = 3 → 1 ≤ k) (hr : r < (if F = 4 then 4 else 3) ^ k) : zT L 47 0 [.ref 12, .ref h, .int (nI v), .int (nI F), .int (nI k), .int (nI r), .null] [] M (fun res M' => res = zB ((zStart F v k r).isSome = true) ∧ (∀ S, zStart F v k r = some S → zC M' h S) ∧ ∀ c, (c < h ∨ h + 4 ≤ c) → c ≠ 13 → M' c = M c) := by
  have hne : h ≠ 13 ∧ h + 1 ≠ 13 ∧ h + 2 ≠ 13 ∧ h + 3 ≠ 13 := by rcases hH with rfl | rfl | rfl <;> omega
  have e4 : nI F = nI 4 ↔ F = 4 := nI_eq (by omega) (by omega)
  simp only [q47_0, q47_1, hH]
  refine zT_mono (s1 hH) ?_
  rintro r1 M1 ⟨-, b1, c1, d1⟩
  have hD : zC M1 h (0, fun _ => 0, fun _ => none, fun _ => none) := ⟨b1, fun i hi => absurd hi (Nat.not_lt_zero i), fun i hi => absurd hi (by show ¬ i < 2 * 0; omega), fun w hw => c1 w hw⟩
  have fin : ∀ (M2 : za_M) (res : Int32), res = zB ((zStart F v k r).isSome = true) → (∀ n ks lk vs, zStart F v k r = some (n, ks, lk, vs) → zC M2 h (n, ks, lk, fun _ => none) ∧ vs = zHv v k) → (∀ c, (c < h ∨ h + 4 ≤ c) → c ≠ 13 → M2 c = M c) → zT L 47 31 [.ref 12, .ref h, .int (nI v), .int (nI F), .int (nI k), .int (nI r), .null] [.int res] M2 (fun res M' => res = zB ((zStart F v k r).isSome = true) ∧ (∀ S, zStart F v k r = some S → zC M' h S) ∧ ∀ c, (c < h ∨ h + 4 ≤ c) → c ≠ 13 → M' c = M c) := by
    intro M2 res hres hst hf
    subst hres
    have key : zT L 47 46 [.ref 12, .ref h, .int (nI v), .int (nI F), .int (nI k), .int (nI r), .int (zB ((zStart F v k r).isSome = true))] [.int (zE (if 0 < k then some 0 else none)), .int (nI v), .ref h] M2 (fun res M' => res = zB ((zStart F v k r).isSome = true) ∧ (∀ S, zStart F v k r = some S → zC M' h S) ∧ ∀ c, (c < h ∨ h + 4 ≤ c) → c ≠ 13 → M' c = M c) := by
      rw [q47_46 hH, s12 hH hv]
      simp only [q47_49, q47_51, zB_ok]
      refine ⟨True.intro, fun S hS => ?_, fun c hc h13 => by rw [za_up_ne (by omega), hf c hc h13]⟩
      obtain ⟨n, ks, lk, vs⟩ := S
      obtain ⟨g1, g2⟩ := hst n ks lk vs hS
      have hH2 := zV_hold (zAp_C h) g1 v (if 0 < k then some 0 else none)
      refine zV_ext hH2 rfl (fun _ _ => rfl) (fun _ _ => rfl) (fun w hw => ?_)
      show vs w = if w = v then (if 0 < k then some 0 else none) else none
      rw [g2]
      rfl
    simp only [q47_31, q47_33, q47_34, q47_35]
    rw [q47_37]
    by_cases hk0 : k = 0
    · subst hk0
      rw [if_pos (by decide), q47_44]
      exact key
    · rw [if_neg (nI_nle (by omega) (by omega)), q47_40, q47_41]
      rw [if_pos (by omega)] at key
      exact key
  simp only [q47_4, q47_5, q47_6]
  rw [q47_7]
  by_cases hF4 : F = 4
  · rw [if_pos (e4.mpr hF4)]
    rw [if_pos hF4] at hr
    have hp := zPw4 hk
    simp only [q47_10, q47_11, q47_12, q47_14, q47_16]
    refine zT_mono (s50 hH hk (by omega) hD) ?_
    rintro r2 M2 ⟨rfl, b2, c2⟩
    rw [q47_19]
    refine fin M2 _ (zB_cg (by simp [zStart, hF4])) (fun n ks lk vs hS => ?_) (fun c hc h13 => ?_)
    · unfold zStart at hS
      rw [if_pos hF4] at hS
      cases hz : zTrc k r with
      | none => rw [hz] at hS; cases hS
      | some l =>
        rw [hz] at hS
        cases hS
        exact ⟨b2 l hz, rfl⟩
    · rw [c2 c (by omega) (by omega) (by omega) h13, d1 c (by omega) (by omega)]
  · rw [if_neg (fun q => hF4 (e4.mp q))]
    rw [if_neg hF4] at hr
    simp only [q47_22, q47_23, q47_24, q47_26, q47_28]
    refine zT_mono (s48 hH (by omega) hF4 hk h3 hr hD) ?_
    rintro r2 M2 ⟨rfl, b2, c2⟩
    refine fin M2 _ (zB_cg ?_) (fun n ks lk vs hS => ?_) (fun c hc h13 => ?_)
    · unfold zStart
      rw [if_neg hF4]
      by_cases q : zVal F k r = true
      · rw [if_pos q]; simp [q]
      · rw [if_neg q]; simp [q]
    · unfold zStart at hS
      rw [if_neg hF4] at hS
      by_cases q : zVal F k r = true
      · rw [if_pos q] at hS
        cases hS
        exact ⟨b2 q, rfl⟩
      · rw [if_neg q] at hS; cases hS
    · rw [c2 c (by omega) (by omega) (by omega), d1 c (by omega) (by omega)]
end ZA
