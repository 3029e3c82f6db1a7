/-! what is come to: one list of nodes, in the order in which they are come to; the class's reach and the model's gather make it -/
theorem z11 : (nI 1 = 1) = True := eq_true (by decide)
theorem z01 : (nI 0 = 1) = False := eq_false (by decide)
def zOne (o : Option Nat) (row : List Nat) : List Nat := match o with
  | none => row
  | some t => if t ∈ row then row else row ++ [t]
def zInn (lk : Nat → Option Nat) (u : Nat) : Nat → Nat → List Nat → List Nat
  | 0, _, row => row
  | d + 1, f, row => zInn lk u d (f + 1) (zOne (lk (2 * u + f)) row)
def zBfs (lk : Nat → Option Nat) (g : Nat) : Nat → Nat → List Nat → List Nat
  | 0, _, row => row
  | n + 1, k, row => match row[k]? with
    | some u => zBfs lk g n (k + 1) (zInn lk u g 0 row)
    | none => row
def zReach (S : zS) (v : Nat) (g : Nat) : List Nat := zBfs S.2.2.1 g 25 0 (zOne (S.2.2.2 v) [])
def zG (n : Nat) (row : List Nat) : Prop := row.Pairwise (fun a b => a ≠ b) ∧ ∀ t ∈ row, t < n
theorem zG_nil (n : Nat) : zG n [] := ⟨List.Pairwise.nil, fun t h => absurd h List.not_mem_nil⟩
theorem zG_one {n : Nat} {row : List Nat} {o : Option Nat} (h : zG n row) (ho : ∀ k, o = some k → k < n) : zG n (zOne o row) := by
  cases o with
  | none => exact h
  | some t =>
    unfold zOne
    dsimp only
    by_cases e : t ∈ row
    · rw [if_pos e]; exact h
    · rw [if_neg e]
      refine ⟨List.pairwise_append.mpr ⟨h.1, List.pairwise_singleton _ _, fun a ha b hb => ?_⟩, fun x hx => ?_⟩
      · rw [List.mem_singleton.mp hb]
        rintro rfl
        exact e ha
      · rcases List.mem_append.mp hx with q | q
        · exact h.2 x q
        · rw [List.mem_singleton.mp q]; exact ho t rfl
theorem zG_flt {a : Nat} : ∀ {row : List Nat}, row.Pairwise (fun a b => a ≠ b) → row.length ≤ (row.filter (fun x => decide (x ≠ a))).length + 1
  | [], _ => Nat.zero_le _
  | t :: row, h => by
    obtain ⟨h1, h2⟩ := List.pairwise_cons.mp h
    by_cases e : t = a
    · subst e
      have hf : row.filter (fun x => decide (x ≠ t)) = row := List.filter_eq_self.mpr (fun x hx => decide_eq_true (fun q => h1 x hx q.symm))
      rw [List.filter_cons_of_neg (by simp), hf]
      simp
    · have := zG_flt (a := a) h2
      rw [List.filter_cons_of_pos (by simp [e])]
      simp only [List.length_cons]
      omega
theorem zG_len : ∀ {n : Nat} {row : List Nat}, zG n row → row.length ≤ n
  | 0, [], _ => Nat.le_refl _
  | 0, t :: row, h => absurd (h.2 t List.mem_cons_self) (Nat.not_lt_zero t)
  | n + 1, row, h => by
    have h1 := zG_flt (a := n) h.1
    have h2 : zG n (row.filter (fun x => decide (x ≠ n))) := by
      refine ⟨h.1.filter _, fun t ht => ?_⟩
      obtain ⟨a, b⟩ := List.mem_filter.mp ht
      have c := h.2 t a
      have d : t ≠ n := of_decide_eq_true b
      omega
    have h3 := zG_len h2
    omega
theorem zOne_at {o : Option Nat} {row : List Nat} {k u : Nat} (h : row[k]? = some u) : (zOne o row)[k]? = some u := by
  cases o with
  | none => exact h
  | some t =>
    unfold zOne
    dsimp only
    split
    · exact h
    · rw [List.getElem?_append_left (List.getElem?_eq_some_iff.mp h).1]; exact h
/-- the row in memory: the nodes in order, and marks -/
def zRw (M : za_M) (cr cm : Nat) (row : List Nat) : Prop := (∀ i t, row[i]? = some t → M cr i = nI t) ∧ ∀ t, t < 24 → M cm t = zB (t ∈ row)
theorem zRw_cg {M M' : za_M} {cr cm : Nat} {row : List Nat} (h : zRw M cr cm row) (h1 : M' cr = M cr) (h2 : M' cm = M cm) : zRw M' cr cm row := by
  unfold zRw
  rw [h1, h2]
  exact h
theorem zRw_push {M : za_M} {cr cm : Nat} {row : List Nat} {t : Nat} (h : zRw M cr cm row) (hne : cr ≠ cm) : zRw (za_up (za_up M cm t (nI 1)) cr row.length (nI t)) cr cm (row ++ [t]) := by
  refine ⟨fun i x hi => ?_, fun x hx => ?_⟩
  · rw [za_up_at, if_pos rfl]
    by_cases e : i = row.length
    · subst e
      rw [List.getElem?_append_right (Nat.le_refl _)] at hi
      simp at hi
      rw [if_pos rfl, hi]
    · have hl : i < (row ++ [t]).length := (List.getElem?_eq_some_iff.mp hi).1
      rw [List.length_append, List.length_singleton] at hl
      rw [List.getElem?_append_left (by omega)] at hi
      rw [if_neg e, za_up_oc hne]
      exact h.1 i x hi
  · rw [za_up_oc (Ne.symm hne), za_up_at, if_pos rfl]
    by_cases e : x = t
    · subst e
      rw [if_pos rfl, zB_t (by simp)]
    · rw [if_neg e, h.2 x hx]
      exact zB_cg (by simp [e])
theorem zRw_swap {M : za_M} {cr cm : Nat} {row : List Nat} {t : Nat} (h : zRw M cr cm row) (hne : cr ≠ cm) : zRw (za_up (za_up M cm t (nI 1)) cr row.length (nI t)) cr cm (row ++ [t]) := zRw_push h hne
section ZA
variable {L : Nat} {M : za_M} {Q : Int32 → za_M → Prop} {h : Nat}
theorem s110n (hH : za_H h) {S : zS} (hS : zC M h S) (h24 : S.1 ≤ 24) : zT L 110 0 [.ref h, .int zN] [] M Q ↔ Q (nI 0) M := by
  have e1 : zB (zNd S.1 zN) = nI 0 := zB_f (by
    intro q
    have : zN.toInt = -99999999 := by decide
    omega)
  simp only [q110_0, q110_1, q110_2, q110_5, hH, t4 hH hS.1 h24, e1, z00, if_true, q110_17, q110_18, true_or, true_and]
theorem s110y (hH : za_H h) {S : zS} (hS : zC M h S) (h24 : S.1 ≤ 24) {t : Nat} (ht : t < S.1) (hm : M (h + 5) t = nI 1) : zT L 110 0 [.ref h, .int (nI t)] [] M Q ↔ Q (nI 0) M := by
  have e1 : zB (zNd S.1 (nI t)) = nI 1 := zB_t ((zNd_iff (by omega)).mpr ⟨t, ht, rfl⟩)
  have e2 : za_in L (h + 5) true (nI t) := za_in_of (za_Hk hH).2.2.2.2.1 (by omega) (by omega)
  have e3 : (nI t).toNatClampNeg = t := nI_clamp (by omega)
  simp only [q110_0, q110_1, q110_2, q110_5, q110_8, q110_9, q110_12, q110_13, q110_14, q110_17, q110_18, hH, t4 hH hS.1 h24, e1, e2, e3, hm, z10, if_false, true_and, zb0]
theorem s110w (hH : za_H h) {S : zS} (hS : zC M h S) (h24 : S.1 ≤ 24) {t : Nat} (ht : t < S.1) (hm : M (h + 5) t = nI 0) : zT L 110 0 [.ref h, .int (nI t)] [] M Q ↔ Q (nI 1) (za_up M (h + 5) t (nI 1)) := by
  have e1 : zB (zNd S.1 (nI t)) = nI 1 := zB_t ((zNd_iff (by omega)).mpr ⟨t, ht, rfl⟩)
  have e2 : za_in L (h + 5) true (nI t) := za_in_of (za_Hk hH).2.2.2.2.1 (by omega) (by omega)
  have e3 : (nI t).toNatClampNeg = t := nI_clamp (by omega)
  have e5 : h + 5 < 42 := (za_Hk (L := L) hH).2.2.2.2.2.1
  simp only [q110_0, q110_1, q110_2, q110_5, q110_8, q110_9, q110_12, q110_13, q110_14, q110_19, q110_20, q110_23, q110_24, q110_25, q110_26, q110_27, hH, t4 hH hS.1 h24, e1, e2, e3, e5, hm, z10, z00, z11, or_true, and_true, if_false, if_true, true_and]
theorem s14 (hH : za_H h) {S : zS} (hS : zC M h S) (hK : zK S) {row : List Nat} (hG : zG S.1 row) (hR : zRw M (h + 4) (h + 5) row) {o : Option Nat} (ho : ∀ k, o = some k → k < S.1) : zT L 14 0 [.ref h, .int (zE o), .int (nI row.length)] [] M (fun r M' => r = nI (zOne o row).length ∧ zRw M' (h + 4) (h + 5) (zOne o row) ∧ ∀ c, c ≠ h + 4 → c ≠ h + 5 → M' c = M c) := by
  have h24 := hK.1
  have hlen := zG_len hG
  have e8 := (za_Hk (L := L) hH).2.2.2.2.2.1
  have f1 : ¬ nI row.length < 0 := nI_pos (by omega)
  have hG' := zG_len (zG_one hG ho)
  by_cases hfull : row.length < 24
  · have f2 : ¬ nI 24 ≤ nI row.length := nI_ge hfull (by omega)
    cases o with
    | none =>
      simp only [zE_n, q14_0, q14_1, q14_4, q14_5, q14_7, q14_10, q14_11, q14_12, q14_15, q14_18, q14_19, hH, f1, f2, if_false, s110n hH hS h24, z00, if_true]
      exact ⟨rfl, hR, fun _ _ _ => True.intro⟩
    | some t =>
      have ht := ho t rfl
      have e4 := hR.2 t (by omega)
      by_cases hm : t ∈ row
      · have hz : zOne (some t) row = row := if_pos hm
        rw [hz]
        rw [zB_t hm] at e4
        simp only [zE_s, q14_0, q14_1, q14_4, q14_5, q14_7, q14_10, q14_11, q14_12, q14_15, q14_18, q14_19, hH, f1, f2, if_false, s110y hH hS h24 ht e4, z00, if_true, true_and]
        exact ⟨hR, fun _ _ _ => True.intro⟩
      · have hz : zOne (some t) row = row ++ [t] := if_neg hm
        have f3 : za_in L (h + 4) false (nI row.length) := za_in_of (za_Hk hH).2.2.2.1 (by omega) (by omega)
        have f4 : (nI row.length).toNatClampNeg = row.length := nI_clamp (by omega)
        have f5 : h + 4 < 42 := by omega
        rw [hz]
        rw [zB_f hm] at e4
        simp only [zE_s, q14_0, q14_1, q14_4, q14_5, q14_7, q14_10, q14_11, q14_12, q14_15, q14_20, q14_21, q14_24, q14_25, q14_26, q14_27, q14_28, q14_29, q14_30, hH, f1, f2, if_false, s110w hH hS h24 ht e4, z10, f3, f4, f5, true_and, nI_add]
        refine ⟨by rw [List.length_append, List.length_singleton], zRw_push hR (by omega), fun c a b => by rw [za_up_ne a, za_up_ne b]⟩
  · have f2 : nI 24 ≤ nI row.length := nI_le (by omega) (by omega)
    have hz : zOne o row = row := by
      cases o with
      | none => rfl
      | some t =>
        by_cases hm : t ∈ row
        · exact if_pos hm
        · rw [show zOne (some t) row = row ++ [t] from if_neg hm, List.length_append, List.length_singleton] at hG'
          omega
    rw [hz]
    simp only [q14_0, q14_1, q14_4, q14_5, q14_7, q14_18, q14_19, f1, f2, if_false, if_true, true_and]
    exact ⟨hR, fun _ _ _ => True.intro⟩
theorem s15_loop (hH : za_H h) : ∀ (d v : Nat), v + d = 24 → ∀ (M : za_M), zT L 15 2 [.ref h, .int (nI v)] [] M (fun _ M' => (∀ w, v ≤ w → w < 24 → M' (h + 5) w = nI 0) ∧ (∀ w, w < v → M' (h + 5) w = M (h + 5) w) ∧ ∀ c, c ≠ h + 5 → M' c = M c) := by
  intro d
  induction d with
  | zero =>
    intro v hv M
    have e1 : nI 24 ≤ nI v := nI_le (by omega) (by omega)
    rw [q15_2, q15_3, q15_5]
    simp only [q15_21, e1, if_true]
    exact ⟨fun w h1 h2 => by omega, fun _ _ => True.intro, fun _ _ => True.intro⟩
  | succ d ih =>
    intro v hv M
    have e1 : ¬ nI 24 ≤ nI v := nI_ge (by omega) (by omega)
    have e2 : (nI v).toNatClampNeg = v := nI_clamp (by omega)
    have e3 : za_in L (h + 5) true (nI v) := za_in_of (za_Hk hH).2.2.2.2.1 (by omega) (by omega)
    have e4 : h + 5 < 42 := (za_Hk (L := L) hH).2.2.2.2.2.1
    have f7 : (nI 0 = 0 ∨ nI 0 = 1) = True := eq_true (Or.inl (by decide))
    rw [q15_2, q15_3, q15_5]
    simp only [q15_8, q15_9, q15_12, q15_13, q15_14, q15_15, q15_18, hH, e1, e2, e3, e4, f7, if_false, true_and, and_true, nI_add]
    refine zT_mono (ih (v + 1) (by omega) _) ?_
    rintro r M' ⟨h2, h3, h4⟩
    refine ⟨fun w a b => ?_, fun w a => ?_, fun c hc => ?_⟩
    · by_cases e : w = v
      · subst e; rw [h3 w (by omega), za_up_same]
      · exact h2 w (by omega) b
    · rw [h3 w (by omega), za_up_oi (by omega)]
    · rw [h4 c hc, za_up_ne hc]
theorem s15 (hH : za_H h) : zT L 15 0 [.ref h, .null] [] M (fun _ M' => (∀ w, w < 24 → M' (h + 5) w = nI 0) ∧ ∀ c, c ≠ h + 5 → M' c = M c) := by
  simp only [q15_0, q15_1]
  refine zT_mono (s15_loop hH 24 0 rfl _) ?_
  rintro r M' ⟨h2, h3, h4⟩
  exact ⟨fun w hw => h2 w (Nat.zero_le _) hw, h4⟩
theorem s13_in (hH : za_H h) {S : zS} (hK : zK S) {g k u : Nat} (hg : g ≤ 2) {l1 l2 : Value} : ∀ (d f : Nat), d + f = g → ∀ (row : List Nat) (M : za_M), zC M h S → zG S.1 row → zRw M (h + 4) (h + 5) row → row[k]? = some u →
    (∀ M', zG S.1 (zInn S.2.2.1 u d f row) → zRw M' (h + 4) (h + 5) (zInn S.2.2.1 u d f row) → (∀ c, c ≠ h + 4 → c ≠ h + 5 → M' c = M c) → zT L 13 79 [.ref h, l1, l2, .int (nI g), .int (nI (zInn S.2.2.1 u d f row).length), .int (nI k), .int (nI g)] [] M' Q) →
    zT L 13 46 [.ref h, l1, l2, .int (nI g), .int (nI row.length), .int (nI k), .int (nI f)] [] M Q := by
  intro d
  induction d with
  | zero =>
    intro f hf row M hS hG hR hu kk
    have hf : f = g := by omega
    subst hf
    have e1 : nI f ≤ nI f := Int32.le_refl _
    rw [q13_46, q13_48, q13_49, if_pos e1]
    exact kk M hG hR (fun _ _ _ => rfl)
  | succ d ih =>
    intro f hf row M hS hG hR hu kk
    have h24 := hK.1
    have hlen := zG_len hG
    have hkl := (List.getElem?_eq_some_iff.mp hu).1
    have hun := hG.2 u (List.mem_of_getElem? hu)
    have e1 : ¬ nI g ≤ nI f := nI_ge (by omega) (by omega)
    have e2 : (nI k).toNatClampNeg = k := nI_clamp (by omega)
    have e3 : za_in L (h + 4) false (nI k) := za_in_of (za_Hk hH).2.2.2.1 (by omega) (by omega)
    have e4 := hR.1 k u hu
    have e5 := hS.2.2.1 (2 * u + f) (by omega)
    have ho : ∀ k, S.2.2.1 (2 * u + f) = some k → k < S.1 := hK.2.1 _ (by omega)
    rw [q13_46, q13_48, q13_49, if_neg e1]
    simp only [q13_52, q13_53, q13_54, q13_55, q13_58, q13_60, q13_61, q13_63, q13_66, q13_68, hH, e2, e3, e4, true_and, s9 hH hS.1 h24 hun (show f < 2 by omega), e5]
    refine zT_mono (s14 hH hS hK hG hR ho) ?_
    rintro r M1 ⟨rfl, r2, r3⟩
    simp only [q13_71, q13_73, q13_76, nI_add]
    refine ih (f + 1) (by omega) (zOne (S.2.2.1 (2 * u + f)) row) M1 (zV_cg hS (r3 h (by omega) (by omega)) (r3 (h + 1) (by omega) (by omega)) (r3 (h + 2) (by omega) (by omega)) (r3 (h + 3) (by omega) (by omega))) (zG_one hG ho) r2 (zOne_at hu) (fun M' a b c => ?_)
    exact kk M' a b (fun x x1 x2 => (c x x1 x2).trans (r3 x x1 x2))
theorem s13_out (hH : za_H h) {S : zS} (hK : zK S) {g : Nat} (hg : g ≤ 2) {l1 l2 : Value} : ∀ (n k : Nat), n + k = 25 → ∀ (row : List Nat) (M : za_M) (l6 : Value), zC M h S → zG S.1 row → zRw M (h + 4) (h + 5) row →
    zT L 13 29 [.ref h, l1, l2, .int (nI g), .int (nI row.length), .int (nI k), l6] [] M (fun r M' => r = nI (zBfs S.2.2.1 g n k row).length ∧ zG S.1 (zBfs S.2.2.1 g n k row) ∧ zRw M' (h + 4) (h + 5) (zBfs S.2.2.1 g n k row) ∧ ∀ c, c ≠ h + 4 → c ≠ h + 5 → M' c = M c) := by
  intro n
  induction n with
  | zero =>
    intro k hk row M l6 hS hG hR
    have hlen := zG_len hG
    have h24 := hK.1
    have e1 : nI row.length ≤ nI k := nI_le (by omega) (by omega)
    rw [q13_29, q13_31, q13_33, if_pos e1]
    simp only [q13_85, q13_87]
    exact ⟨rfl, hG, hR, fun _ _ _ => True.intro⟩
  | succ n ih =>
    intro k hk row M l6 hS hG hR
    have hlen := zG_len hG
    have h24 := hK.1
    cases hu : row[k]? with
    | none =>
      have hkl : row.length ≤ k := List.getElem?_eq_none_iff.mp hu
      have e1 : nI row.length ≤ nI k := nI_le hkl (by omega)
      have hz : zBfs S.2.2.1 g (n + 1) k row = row := by unfold zBfs; rw [hu]
      rw [hz, q13_29, q13_31, q13_33, if_pos e1]
      simp only [q13_85, q13_87]
      exact ⟨True.intro, hG, hR, fun _ _ _ => True.intro⟩
    | some u =>
      have hkl := (List.getElem?_eq_some_iff.mp hu).1
      have e1 : ¬ nI row.length ≤ nI k := nI_ge hkl (by omega)
      have e2 : ¬ nI 24 ≤ nI k := nI_ge (by omega) (by omega)
      have hz : zBfs S.2.2.1 g (n + 1) k row = zBfs S.2.2.1 g n (k + 1) (zInn S.2.2.1 u g 0 row) := by
        conv => lhs; unfold zBfs
        rw [hu]
      rw [hz, q13_29, q13_31, q13_33, if_neg e1, q13_36, q13_38, q13_40, if_neg e2, q13_43, q13_44]
      refine s13_in hH hK hg g 0 (by omega) row M hS hG hR hu (fun M' a b c => ?_)
      simp only [q13_79, q13_82, nI_add]
      refine zT_mono (ih (k + 1) (by omega) _ M' _ (zV_cg hS (c h (by omega) (by omega)) (c (h + 1) (by omega) (by omega)) (c (h + 2) (by omega) (by omega)) (c (h + 3) (by omega) (by omega))) a b) ?_
      rintro r M2 ⟨t1, t2, t3, t4⟩
      exact ⟨t1, t2, t3, fun x x1 x2 => (t4 x x1 x2).trans (c x x1 x2)⟩
/-- reach, by one link (bo 0) or both -/
theorem s13 (hH : za_H h) {S : zS} (hS : zC M h S) (hK : zK S) {v g : Nat} (hv : v < 8) {bo : Int32} (hb : (bo = nI 0 ∧ g = 1) ∨ (bo = nI 1 ∧ g = 2)) : zT L 13 0 [.ref h, .int (nI v), .int bo, .null, .null, .null, .null] [] M (fun r M' => r = nI (zReach S v g).length ∧ zG S.1 (zReach S v g) ∧ zRw M' (h + 4) (h + 5) (zReach S v g) ∧ ∀ c, c ≠ h + 4 → c ≠ h + 5 → M' c = M c) := by
  have hg : g ≤ 2 := by omega
  simp only [q13_0, q13_1, hH]
  refine zT_mono (s15 hH) ?_
  rintro r M1 ⟨c1, c2⟩
  have hS1 : zC M1 h S := zV_cg hS (c2 h (by omega)) (c2 (h + 1) (by omega)) (c2 (h + 2) (by omega)) (c2 (h + 3) (by omega))
  have hR1 : zRw M1 (h + 4) (h + 5) [] := ⟨fun i t hi => by simp at hi, fun t ht => by rw [c1 t ht, zB_f (by simp)]⟩
  have key : zT L 13 14 [.ref h, .int (nI v), .int bo, .int (nI g), .null, .null, .null] [] M1 (fun r M' => r = nI (zReach S v g).length ∧ zG S.1 (zReach S v g) ∧ zRw M' (h + 4) (h + 5) (zReach S v g) ∧ ∀ c, c ≠ h + 4 → c ≠ h + 5 → M' c = M c) := by
    simp only [q13_14, q13_15, q13_16, q13_17, q13_20, q13_21, hH, s11 hH hv, hS1.2.2.2 v hv]
    refine zT_mono (s14 (row := []) hH hS1 hK (zG_nil _) hR1 (hK.2.2 v hv)) ?_
    rintro r M2 ⟨rfl, r2, r3⟩
    simp only [q13_24, q13_26, q13_27]
    refine zT_mono (s13_out hH hK hg 25 0 rfl _ M2 _ (zV_cg hS1 (r3 h (by omega) (by omega)) (r3 (h + 1) (by omega) (by omega)) (r3 (h + 2) (by omega) (by omega)) (r3 (h + 3) (by omega) (by omega))) (zG_one (zG_nil _) (hK.2.2 v hv)) r2) ?_
    rintro r M3 ⟨t1, t2, t3, t4⟩
    exact ⟨t1, t2, t3, fun x x1 x2 => by rw [t4 x x1 x2, r3 x x1 x2, c2 x x2]⟩
  rcases hb with ⟨rfl, rfl⟩ | ⟨rfl, rfl⟩
  · simp only [q13_4, q13_5, q13_8, q13_9, q13_12, q13_13, z00, if_true]
    exact key
  · simp only [q13_4, q13_5, q13_8, q13_9, q13_12, q13_13, z10, if_false]
    exact key
end ZA
