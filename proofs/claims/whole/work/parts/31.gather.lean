/-! the model's gather makes the same row -/
def zRch (S : zS) (o : Option Nat) (g : Nat) : List Nat := zBfs S.2.2.1 g 25 0 (zOne o [])
section ZA
variable {L : Nat} {M : za_M} {Q : Int32 → za_M → Prop}
theorem s90_clr {l1 l2 l4 l5 : Value} : ∀ (d v : Nat), v + d = 24 → ∀ (M : za_M), (∀ M', (∀ w, v ≤ w → w < 24 → M' 34 w = nI 0) → (∀ w, w < v → M' 34 w = M 34 w) → (∀ c, c ≠ 34 → M' c = M c) → zT L 90 21 [.ref 26, l1, l2, .int (nI 24), l4, l5] [] M' Q) → zT L 90 2 [.ref 26, l1, l2, .int (nI v), l4, l5] [] M Q := by
  intro d
  induction d with
  | zero =>
    intro v hv M kk
    have hv : v = 24 := by omega
    subst hv
    have e1 : nI 24 ≤ nI 24 := by decide
    rw [q90_2, q90_3, q90_5, if_pos e1]
    exact kk M (fun w h1 h2 => by omega) (fun _ _ => rfl) (fun _ _ => rfl)
  | succ d ih =>
    intro v hv M kk
    have e1 : ¬ nI 24 ≤ nI v := nI_ge (by omega) (by omega)
    have e2 : (nI v).toNatClampNeg = v := nI_clamp (by omega)
    have e3 : za_in L 34 true (nI v) := za_in_of (n := 24) rfl (by omega) (by omega)
    rw [q90_2, q90_3, q90_5, if_neg e1]
    simp only [q90_8, q90_9, q90_12, q90_13, q90_14, q90_15, q90_18, e2, e3, z00, true_or, true_and, and_true, nI_add, Nat.reduceLT]
    refine ih (v + 1) (by omega) _ (fun M' h2 h3 h4 => kk M' (fun w a b => ?_) (fun w a => ?_) (fun c hc => ?_))
    · by_cases e : w = v
      · subst e; rw [h3 w (by omega), za_up_same]
      · exact h2 w (by omega) b
    · rw [h3 w (by omega), za_up_oi (by omega)]
    · rw [h4 c hc, za_up_ne hc]
/-- what gather leaves -/
def zGR (M M' : za_M) (row : List Nat) : Prop := M' 26 14 = nI row.length ∧ zRw M' 35 34 row ∧ (∀ f, f ≠ 14 → M' 26 f = M 26 f) ∧ ∀ c, c ≠ 26 → c ≠ 34 → c ≠ 35 → M' c = M c
theorem zGR_V {M' : za_M} {S : zS} {row : List Nat} (h : zMo M S) (g : zGR M M' row) : zMo M' S := by
  obtain ⟨g1, g2, g3, g4⟩ := g
  refine ⟨by rw [g3 0 (by decide)]; exact h.1, ?_, ?_, ?_⟩
  · rw [g4 28 (by decide) (by decide) (by decide)]; exact h.2.1
  · rw [g4 27 (by decide) (by decide) (by decide)]; exact h.2.2.1
  · rw [g4 29 (by decide) (by decide) (by decide)]; exact h.2.2.2
theorem zGR_tr {M0 M' : za_M} {row row' : List Nat} (h : zGR M0 M row) (g : zGR M M' row') : zGR M0 M' row' := by
  obtain ⟨g1, g2, g3, g4⟩ := g
  obtain ⟨h1, h2, h3, h4⟩ := h
  exact ⟨g1, g2, fun f hf => (g3 f hf).trans (h3 f hf), fun c a b d => (g4 c a b d).trans (h4 c a b d)⟩
theorem s90_hd {g k f : Nat} {bo : Int32} {l1 l5 : Value} (hb : (bo = nI 0 ∧ g = 1) ∨ (bo = nI 1 ∧ g = 2)) : zT L 90 64 [.ref 26, l1, .int bo, .int (nI k), .int (nI f), l5] [] M Q ↔ (if nI g ≤ nI f then zT L 90 148 [.ref 26, l1, .int bo, .int (nI k), .int (nI f), l5] [] M Q else zT L 90 78 [.ref 26, l1, .int bo, .int (nI k), .int (nI f), l5] [] M Q) := by
  rcases hb with ⟨rfl, rfl⟩ | ⟨rfl, rfl⟩
  · simp only [q90_64, q90_66, q90_67, q90_70, q90_71, q90_74, q90_75, z00, if_true]
  · simp only [q90_64, q90_66, q90_67, q90_70, q90_71, q90_74, q90_75, z10, if_false]
theorem s90_in {S : zS} (hK : zK S) {g k u : Nat} {bo : Int32} (hb : (bo = nI 0 ∧ g = 1) ∨ (bo = nI 1 ∧ g = 2)) {l1 : Value} : ∀ (d f : Nat), d + f = g → ∀ (row : List Nat) (M : za_M) (l5 : Value), zMo M S → zG S.1 row → M 26 14 = nI row.length → zRw M 35 34 row → row[k]? = some u →
    (∀ (M' : za_M) (l5 : Value), zG S.1 (zInn S.2.2.1 u d f row) → zGR M M' (zInn S.2.2.1 u d f row) → zT L 90 148 [.ref 26, l1, .int bo, .int (nI k), .int (nI g), l5] [] M' Q) →
    zT L 90 64 [.ref 26, l1, .int bo, .int (nI k), .int (nI f), l5] [] M Q := by
  intro d
  induction d with
  | zero =>
    intro f hf row M l5 hS hG hm hR hu kk
    have hf : f = g := by omega
    subst hf
    rw [s90_hd hb, if_pos (Int32.le_refl _)]
    exact kk M l5 hG ⟨hm, hR, fun _ _ => rfl, fun _ _ _ _ => rfl⟩
  | succ d ih =>
    intro f hf row M l5 hS hG hm hR hu kk
    have h24 := hK.1
    have hlen := zG_len hG
    have hkl := (List.getElem?_eq_some_iff.mp hu).1
    have hun := hG.2 u (List.mem_of_getElem? hu)
    have e1 : ¬ nI g ≤ nI f := nI_ge (by omega) (by omega)
    have e2 : (nI k).toNatClampNeg = k := nI_clamp (by omega)
    have e3 : za_in L 35 false (nI k) := za_in_of (n := 24) rfl (by omega) (by omega)
    have e4 := hR.1 k u hu
    have e5 := hS.2.2.1 (2 * u + f) (by omega)
    have e6 : za_in L 27 false (nI (2 * u + f)) := za_in_of (n := 48) rfl (by omega) (by omega)
    have e7 : (nI (2 * u + f)).toNatClampNeg = 2 * u + f := nI_clamp (by omega)
    have ho : ∀ k, S.2.2.1 (2 * u + f) = some k → k < S.1 := hK.2.1 _ (by omega)
    rw [s90_hd hb, if_neg e1]
    simp only [q90_78, q90_79, q90_82, q90_83, q90_84, q90_87, q90_88, q90_89, q90_90, q90_92, q90_93, q90_94, e2, e3, e4, true_and, pk_mul, nI_add, e6, e7, e5]
    have kk' : ∀ (M' : za_M) (l5 : Value), zGR M M' (zOne (S.2.2.1 (2 * u + f)) row) → zT L 90 142 [.ref 26, l1, .int bo, .int (nI k), .int (nI f), l5] [] M' Q := by
      intro M' l5 hM
      simp only [q90_142, q90_145, nI_add]
      exact ih (f + 1) (by omega) _ M' l5 (zGR_V hS hM) (zG_one hG ho) hM.1 hM.2.1 (zOne_at hu) (fun M'' l5' a b => kk M'' l5' a (zGR_tr hM b))
    have hbase : zGR M M row := ⟨hm, hR, fun _ _ => rfl, fun _ _ _ _ => rfl⟩
    cases hlk : S.2.2.1 (2 * u + f) with
    | none =>
      rw [hlk] at kk'
      simp only [zE_n, q90_96, q90_98, q90_100, if_true]
      exact kk' M _ hbase
    | some t =>
      rw [hlk] at kk'
      have ht := ho t hlk
      have f1 : ¬ nI t = zN := zN_ne (by omega)
      have f2 : za_in L 34 true (nI t) := za_in_of (n := 24) rfl (by omega) (by omega)
      have f3 : (nI t).toNatClampNeg = t := nI_clamp (by omega)
      have f4 := hR.2 t (by omega)
      by_cases hmem : t ∈ row
      · rw [zB_t hmem] at f4
        have hz : zOne (some t) row = row := if_pos hmem
        rw [hz] at kk'
        simp only [zE_s, q90_96, q90_98, q90_100, q90_103, q90_104, q90_107, q90_109, q90_110, f1, if_false, f2, f3, f4, z10, true_and]
        exact kk' M _ hbase
      · rw [zB_f hmem] at f4
        have hz : zOne (some t) row = row ++ [t] := if_neg hmem
        have hG' : zG S.1 (row ++ [t]) := by rw [← hz, ← hlk]; exact zG_one hG ho
        have hl2 := zG_len hG'
        rw [List.length_append, List.length_singleton] at hl2
        rw [hz] at kk'
        have g1 : za_in L 35 false (nI row.length) := za_in_of (n := 24) rfl (by omega) (by omega)
        have g2 : (nI row.length).toNatClampNeg = row.length := nI_clamp (by omega)
        simp only [zE_s, q90_96, q90_98, q90_100, q90_103, q90_104, q90_107, q90_109, q90_110, q90_113, q90_114, q90_117, q90_119, q90_120, q90_121, q90_122, q90_125, q90_126, q90_129, q90_131, q90_132, q90_133, q90_134, q90_137, q90_138, q90_139, f1, if_false, f2, f3, f4, z00, if_true, true_and, and_true, z11, or_true, za_up_at, Nat.reduceEqDiff, hm, g1, g2, nI_add, Nat.reduceLT]
        refine kk' _ _ ⟨?_, ?_, fun x hx => ?_, fun c a b d => ?_⟩
        · rw [za_up_same, List.length_append, List.length_singleton]
        · exact zRw_cg (zRw_push hR (by decide)) (by rw [za_up_ne (by decide)]) (by rw [za_up_ne (by decide)])
        · rw [za_up_oi hx, za_up_oc (by decide), za_up_oc (by decide)]
        · rw [za_up_ne a, za_up_ne d, za_up_ne b]
theorem s90_out {S : zS} (hK : zK S) {g : Nat} {bo : Int32} (hb : (bo = nI 0 ∧ g = 1) ∨ (bo = nI 1 ∧ g = 2)) {l1 : Value} : ∀ (n k : Nat), n + k = 25 → ∀ (row : List Nat) (M : za_M) (l4 l5 : Value), zMo M S → zG S.1 row → M 26 14 = nI row.length → zRw M 35 34 row →
    zT L 90 53 [.ref 26, l1, .int bo, .int (nI k), l4, l5] [] M (fun _ M' => zG S.1 (zBfs S.2.2.1 g n k row) ∧ zGR M M' (zBfs S.2.2.1 g n k row)) := by
  intro n
  induction n with
  | zero =>
    intro k hk row M l4 l5 hS hG hm hR
    have hlen := zG_len hG
    have h24 := hK.1
    have e1 : nI row.length ≤ nI k := nI_le (by omega) (by omega)
    rw [q90_53, q90_54, q90_55, q90_58, hm, if_pos e1, q90_154]
    exact ⟨hG, hm, hR, fun _ _ => rfl, fun _ _ _ _ => rfl⟩
  | succ n ih =>
    intro k hk row M l4 l5 hS hG hm hR
    have hlen := zG_len hG
    have h24 := hK.1
    cases hu : row[k]? with
    | none =>
      have hkl : row.length ≤ k := List.getElem?_eq_none_iff.mp hu
      have e1 : nI row.length ≤ nI k := nI_le hkl (by omega)
      have hz : zBfs S.2.2.1 g (n + 1) k row = row := by unfold zBfs; rw [hu]
      rw [hz, q90_53, q90_54, q90_55, q90_58, hm, if_pos e1, q90_154]
      exact ⟨hG, hm, hR, fun _ _ => rfl, fun _ _ _ _ => rfl⟩
    | some u =>
      have hkl := (List.getElem?_eq_some_iff.mp hu).1
      have e1 : ¬ nI row.length ≤ nI k := nI_ge hkl (by omega)
      have hz : zBfs S.2.2.1 g (n + 1) k row = zBfs S.2.2.1 g n (k + 1) (zInn S.2.2.1 u g 0 row) := by
        conv => lhs; unfold zBfs
        rw [hu]
      rw [hz, q90_53, q90_54, q90_55, q90_58, hm, if_neg e1, q90_61, q90_62]
      refine s90_in hK hb g 0 (by omega) row M _ hS hG hm hR hu (fun M' l5' a b => ?_)
      simp only [q90_148, q90_151, nI_add]
      refine zT_mono (ih (k + 1) (by omega) _ M' _ _ (zGR_V hS b) a b.1 b.2.1) ?_
      rintro r M2 ⟨t1, t2⟩
      exact ⟨t1, zGR_tr b t2⟩
theorem s90 {S : zS} (hS : zMo M S) (hK : zK S) {o : Option Nat} (ho : ∀ k, o = some k → k < S.1) {g : Nat} {bo : Int32} (hb : (bo = nI 0 ∧ g = 1) ∨ (bo = nI 1 ∧ g = 2)) : zT L 90 0 [.ref 26, .int (zE o), .int bo, .null, .null, .null] [] M (fun _ M' => zG S.1 (zRch S o g) ∧ zGR M M' (zRch S o g)) := by
  have h24 := hK.1
  simp only [q90_0, q90_1]
  refine s90_clr 24 0 rfl M (fun M1 c1 _ c2 => ?_)
  simp only [q90_21, q90_22, q90_23, q90_26, q90_27]
  have kk : ∀ M2 : za_M, zGR M M2 (zOne o []) → zT L 90 51 [.ref 26, .int (zE o), .int bo, .int (nI 24), .null, .null] [] M2 (fun _ M' => zG S.1 (zRch S o g) ∧ zGR M M' (zRch S o g)) := by
    intro M2 hM
    simp only [q90_51, q90_52]
    refine zT_mono (s90_out hK hb 25 0 rfl (zOne o []) M2 _ _ (zGR_V hS hM) (zG_one (zG_nil _) ho) hM.1 hM.2.1) ?_
    rintro r M3 ⟨t1, t2⟩
    exact ⟨t1, zGR_tr hM t2⟩
  have hz0 : ∀ t, t < 24 → M1 34 t = nI 0 := fun t ht => c1 t (Nat.zero_le _) ht
  cases o with
  | none =>
    simp only [zE_n, q90_29, if_true]
    refine kk _ ⟨?_, ⟨fun i t hi => ?_, fun t ht => ?_⟩, fun f hf => ?_, fun c a b d => ?_⟩
    · rw [za_up_same]; rfl
    · simp [zOne] at hi
    · rw [za_up_oc (by decide), hz0 t ht]; exact (zB_f (by simp [zOne])).symm
    · rw [za_up_oi hf, c2 26 (by decide)]
    · rw [za_up_ne a, c2 c b]
  | some t =>
    have ht := ho t rfl
    have f1 : ¬ nI t = zN := zN_ne (by omega)
    have f2 : za_in L 34 true (nI t) := za_in_of (n := 24) rfl (by omega) (by omega)
    have f3 : (nI t).toNatClampNeg = t := nI_clamp (by omega)
    have f4 : za_in L 35 false (nI 0) := za_in_of (n := 24) rfl (by omega) (by omega)
    have f5 : (nI 0).toNatClampNeg = 0 := nI_clamp (by omega)
    simp only [zE_s, q90_29, q90_32, q90_33, q90_36, q90_37, q90_38, q90_39, q90_40, q90_43, q90_44, q90_45, q90_46, q90_47, q90_48, f1, if_false, f2, f3, f4, f5, z11, or_true, and_true, true_and, Nat.reduceLT]
    refine kk _ ⟨?_, ⟨fun i x hi => ?_, fun x hx => ?_⟩, fun f hf => ?_, fun c a b d => ?_⟩
    · rw [za_up_same]; rfl
    · have hi0 : i = 0 ∧ x = t := by
        have hl := (List.getElem?_eq_some_iff.mp hi).1
        simp [zOne] at hl
        subst hl
        simp [zOne] at hi
        exact ⟨rfl, hi.symm⟩
      rw [hi0.1, hi0.2, za_up_oc (by decide), za_up_same]
    · rw [za_up_oc (by decide), za_up_oc (by decide), za_up_at, if_pos rfl, za_up_oc (by decide)]
      by_cases e : x = t
      · rw [if_pos e]; exact (zB_t (by simp [zOne, e])).symm
      · rw [if_neg e, hz0 x hx]; exact (zB_f (by simp [zOne, e])).symm
    · rw [za_up_oi hf, za_up_oc (by decide), za_up_oc (by decide), za_up_oi hf, c2 26 (by decide)]
    · rw [za_up_ne a, za_up_ne d, za_up_ne b, za_up_ne a, c2 c b]
end ZA
