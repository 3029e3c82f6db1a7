/-! the two tree checks are one -/
theorem zOne_sub {o : Option Nat} {row : List Nat} {t : Nat} (h : t ∈ row) : t ∈ zOne o row := by
  cases o with
  | none => exact h
  | some x =>
    unfold zOne
    dsimp only
    split
    · exact h
    · exact List.mem_append_left _ h
theorem zOne_in (t : Nat) (row : List Nat) : t ∈ zOne (some t) row := by
  unfold zOne
  dsimp only
  split
  · assumption
  · exact List.mem_append_right _ List.mem_cons_self
theorem zInn_sub {lk : Nat → Option Nat} {u t : Nat} : ∀ (d f : Nat) (row : List Nat), t ∈ row → t ∈ zInn lk u d f row
  | 0, _, _, h => h
  | d + 1, f, _, h => zInn_sub d (f + 1) _ (zOne_sub h)
theorem zInn_in {lk : Nat → Option Nat} {u t : Nat} : ∀ (d f : Nat) (row : List Nat) (f' : Nat), f ≤ f' → f' < f + d → lk (2 * u + f') = some t → t ∈ zInn lk u d f row
  | 0, f, row, f', h1, h2, _ => by omega
  | d + 1, f, row, f', h1, h2, h3 => by
    by_cases e : f' = f
    · subst e
      refine zInn_sub d (f' + 1) _ ?_
      rw [h3]
      exact zOne_in t row
    · exact zInn_in d (f + 1) _ f' (by omega) (by omega) h3
theorem zInn_G {S : zS} (hK : zK S) {u : Nat} (hu : u < S.1) : ∀ (d f : Nat) (row : List Nat), f + d ≤ 2 → zG S.1 row → zG S.1 (zInn S.2.2.1 u d f row)
  | 0, _, _, _, h => h
  | d + 1, f, row, hf, h => zInn_G hK hu d (f + 1) _ (by omega) (zG_one h (hK.2.1 _ (by omega)))
theorem zBfs_cl {S : zS} (hK : zK S) {g : Nat} (hg : g ≤ 2) : ∀ (n k : Nat) (row : List Nat), n + k = 25 → zG S.1 row → (∀ i u, i < k → row[i]? = some u → ∀ f t, f < g → S.2.2.1 (2 * u + f) = some t → t ∈ row) →
    zG S.1 (zBfs S.2.2.1 g n k row) ∧ ∀ u ∈ zBfs S.2.2.1 g n k row, ∀ f t, f < g → S.2.2.1 (2 * u + f) = some t → t ∈ zBfs S.2.2.1 g n k row := by
  intro n
  induction n with
  | zero =>
    intro k row hk hG hc
    refine ⟨hG, fun u hu f t hf ht => ?_⟩
    obtain ⟨i, hi⟩ := List.getElem?_of_mem hu
    have h1 : i < row.length := (List.getElem?_eq_some_iff.mp hi).1
    have h2 := zG_len hG
    have h3 := hK.1
    exact hc i u (by omega) hi f t hf ht
  | succ n ih =>
    intro k row hk hG hc
    cases hu : row[k]? with
    | none =>
      have hz : zBfs S.2.2.1 g (n + 1) k row = row := by unfold zBfs; rw [hu]
      rw [hz]
      refine ⟨hG, fun u hu' f t hf ht => ?_⟩
      obtain ⟨i, hi⟩ := List.getElem?_of_mem hu'
      have h1 : i < row.length := (List.getElem?_eq_some_iff.mp hi).1
      have h2 := List.getElem?_eq_none_iff.mp hu
      exact hc i u (by omega) hi f t hf ht
    | some u =>
      have hz : zBfs S.2.2.1 g (n + 1) k row = zBfs S.2.2.1 g n (k + 1) (zInn S.2.2.1 u g 0 row) := by
        conv => lhs; unfold zBfs
        rw [hu]
      rw [hz]
      have hkl := (List.getElem?_eq_some_iff.mp hu).1
      have hun := hG.2 u (List.mem_of_getElem? hu)
      refine ih (k + 1) _ (by omega) (zInn_G hK hun g 0 row (by omega) hG) (fun i w hi hw f t hf ht => ?_)
      have hil : i < row.length := by omega
      have hrow : row[i]? = some row[i] := List.getElem?_eq_getElem hil
      have hw2 := zInn_at (lk := S.2.2.1) (u := u) g 0 row hrow
      rw [hw] at hw2
      have hwe : w = row[i] := Option.some.inj hw2
      by_cases e : i = k
      · subst e
        rw [hrow] at hu
        have : w = u := by rw [hwe]; exact Option.some.inj hu
        subst this
        exact zInn_in g 0 row f (Nat.zero_le _) (by omega) ht
      · refine zInn_sub g 0 row (hc i w (by omega) ?_ f t hf ht)
        rw [hwe]
        exact hrow
theorem zRch_cl {S : zS} (hK : zK S) {o : Option Nat} (ho : ∀ k, o = some k → k < S.1) {g : Nat} (hg : g ≤ 2) : zG S.1 (zRch S o g) ∧ ∀ u ∈ zRch S o g, ∀ f t, f < g → S.2.2.1 (2 * u + f) = some t → t ∈ zRch S o g :=
  zBfs_cl hK hg 25 0 _ rfl (zG_one (zG_nil _) ho) (fun i u hi => absurd hi (Nat.not_lt_zero i))
def zTg (lk : Nat → Option Nat) (u : Nat) : List Nat := (lk (2 * u)).toList ++ (lk (2 * u + 1)).toList
def zTG (lk : Nat → Option Nat) : List Nat → List Nat
  | [] => []
  | u :: row => zTg lk u ++ zTG lk row
def zChk : List Nat → List Nat → Option (List Nat)
  | seen, [] => some seen
  | seen, t :: ts => if t ∈ seen then none else zChk (t :: seen) ts
theorem zChk_app : ∀ (ts ts' seen : List Nat), zChk seen (ts ++ ts') = (zChk seen ts).bind (fun s => zChk s ts')
  | [], ts', seen => rfl
  | t :: ts, ts', seen => by
    simp only [List.cons_append, zChk]
    split
    · rfl
    · exact zChk_app ts ts' (t :: seen)
theorem zTi_chk (lk : Nat → Option Nat) (u : Nat) (seen : List Nat) : zTi lk u 2 0 seen = zChk seen (zTg lk u) := by
  have h0 : 2 * u + 0 = 2 * u := rfl
  unfold zTi
  rw [h0]
  cases h1 : lk (2 * u) with
  | none =>
    dsimp only
    unfold zTi
    rw [show 2 * u + (0 + 1) = 2 * u + 1 from rfl]
    cases h2 : lk (2 * u + 1) with
    | none => simp [zTg, h1, h2, zChk, zTi]
    | some t => simp [zTg, h1, h2, zChk, zTi]
  | some a =>
    dsimp only
    unfold zTi
    rw [show 2 * u + (0 + 1) = 2 * u + 1 from rfl]
    cases h2 : lk (2 * u + 1) with
    | none => simp [zTg, h1, h2, zChk, zTi]
    | some t => simp [zTg, h1, h2, zChk, zTi]
theorem zTo_chk (lk : Nat → Option Nat) : ∀ (row seen : List Nat), zTo lk row seen = (zChk seen (zTG lk row)).isSome
  | [], seen => rfl
  | u :: row, seen => by
    unfold zTo zTG
    rw [zTi_chk, zChk_app]
    cases zChk seen (zTg lk u) with
    | none => rfl
    | some s => exact zTo_chk lk row s
theorem zChk_iff : ∀ (ts seen : List Nat), (zChk seen ts).isSome = true ↔ ((∀ x, ts.count x ≤ 1) ∧ ∀ t ∈ ts, t ∉ seen)
  | [], seen => by simp [zChk]
  | t :: ts, seen => by
    unfold zChk
    by_cases e : t ∈ seen
    · rw [if_pos e]
      constructor
      · intro h; cases h
      · intro h; exact absurd e (h.2 t List.mem_cons_self)
    · rw [if_neg e, zChk_iff ts (t :: seen)]
      constructor
      · rintro ⟨h1, h2⟩
        refine ⟨fun x => ?_, fun y hy => ?_⟩
        · rw [List.count_cons]
          by_cases ex : t = x
          · subst ex
            have h3 : t ∉ ts := fun q => h2 t q List.mem_cons_self
            rw [List.count_eq_zero.mpr h3]
            simp
          · have := h1 x
            simp [ex]
            exact this
        · rcases List.mem_cons.mp hy with rfl | hy
          · exact e
          · exact fun q => h2 y hy (List.mem_cons_of_mem _ q)
      · rintro ⟨h1, h2⟩
        refine ⟨fun x => ?_, fun y hy q => ?_⟩
        · have := h1 x
          rw [List.count_cons] at this
          omega
        · rcases List.mem_cons.mp q with rfl | q
          · have h3 := h1 y
            rw [List.count_cons] at h3
            have h4 : 0 < ts.count y := List.count_pos_iff.mpr hy
            simp at h3
            omega
          · exact h2 y (List.mem_cons_of_mem _ hy) q
theorem zCt_count (lk : Nat → Option Nat) (x : Nat) : ∀ row : List Nat, zCt lk x row = (zTG lk row).count x
  | [] => rfl
  | u :: row => by
    unfold zCt zTG
    rw [List.count_append, zCt_count lk x row]
    congr 1
    unfold zTg
    rw [List.count_append]
    congr 1
    · cases h : lk (2 * u) with
      | none => simp
      | some a => simp [List.count_cons]
    · cases h : lk (2 * u + 1) with
      | none => simp
      | some a => simp [List.count_cons]
theorem zTk_iff (lk : Nat → Option Nat) (row : List Nat) : ∀ (suf : List Nat) (k : Nat), zTk lk row k suf = true ↔ ∀ j x, suf[j]? = some x → zCt lk x row ≤ if k + j = 0 then 0 else 1
  | [], k => by simp [zTk]
  | y :: suf, k => by
    unfold zTk
    rw [Bool.and_eq_true, decide_eq_true_eq, zTk_iff lk row suf (k + 1)]
    constructor
    · rintro ⟨h1, h2⟩ j x hj
      cases j with
      | zero => cases hj; exact h1
      | succ j =>
        have := h2 j x hj
        rw [show k + (j + 1) = k + 1 + j by omega]
        exact this
    · intro h
      refine ⟨h 0 y rfl, fun j x hj => ?_⟩
      have := h (j + 1) x hj
      rw [show k + 1 + j = k + (j + 1) by omega]
      exact this
theorem zTG_mem {lk : Nat → Option Nat} {t : Nat} : ∀ {row : List Nat}, t ∈ zTG lk row → ∃ u ∈ row, ∃ f, f < 2 ∧ lk (2 * u + f) = some t
  | [], h => absurd h List.not_mem_nil
  | u :: row, h => by
    unfold zTG at h
    rcases List.mem_append.mp h with h | h
    · unfold zTg at h
      rcases List.mem_append.mp h with h | h
      · exact ⟨u, List.mem_cons_self, 0, by omega, by simpa using h⟩
      · exact ⟨u, List.mem_cons_self, 1, by omega, by simpa using h⟩
    · obtain ⟨w, hw, r⟩ := zTG_mem h
      exact ⟨w, List.mem_cons_of_mem _ hw, r⟩
theorem zTree_eq {S : zS} (hK : zK S) {o : Option Nat} (ho : ∀ k, o = some k → k < S.1) : zTk S.2.2.1 (zRch S o 2) 0 (zRch S o 2) = zTo S.2.2.1 (zRch S o 2) o.toList := by
  obtain ⟨hG, hcl⟩ := zRch_cl hK ho (g := 2) (by omega)
  have h0 := zRch_0 S o 2
  rw [Bool.eq_iff_iff, zTo_chk, zChk_iff, zTk_iff]
  constructor
  · intro h
    refine ⟨fun x => ?_, fun t ht hto => ?_⟩
    · by_cases hx : x ∈ zTG S.2.2.1 (zRch S o 2)
      · obtain ⟨u, hu, f, hf, hl⟩ := zTG_mem hx
        have hxr := hcl u hu f x hf hl
        obtain ⟨j, hj⟩ := List.getElem?_of_mem hxr
        have h1 := h j x hj
        rw [zCt_count] at h1
        split at h1 <;> omega
      · rw [List.count_eq_zero.mpr hx]; omega
    · cases o with
      | none => simp at hto
      | some r =>
        have hr : t = r := by simpa using hto
        subst hr
        have h1 := h 0 t h0
        rw [zCt_count] at h1
        have h2 : 0 < (zTG S.2.2.1 (zRch S (some t) 2)).count t := List.count_pos_iff.mpr ht
        simp at h1
        omega
  · rintro ⟨h1, h2⟩ j x hj
    rw [zCt_count]
    by_cases hj0 : j = 0
    · subst hj0
      rw [h0] at hj
      have hx : x ∉ zTG S.2.2.1 (zRch S o 2) := fun q => h2 x q (by rw [hj]; simp)
      rw [List.count_eq_zero.mpr hx]
      exact Nat.zero_le _
    · rw [if_neg (by omega)]
      exact h1 x
section ZA
variable {L : Nat} {M : za_M} {Q : Int32 → za_M → Prop}
/-- what a look at a form leaves in the model -/
def zHR (M M' : za_M) : Prop := (∀ f, f ≠ 14 → M' 26 f = M 26 f) ∧ ∀ c, c ≠ 26 → c ≠ 34 → c ≠ 35 → M' c = M c
theorem zHR_of {M' : za_M} {row : List Nat} (h : zGR M M' row) : zHR M M' := ⟨h.2.2.1, h.2.2.2⟩
theorem s95 {S : zS} (hS : zMo M S) (hK : zK S) {v F : Nat} (hv : v < 8) (hF : F ≤ 6) : zT L 95 0 [.ref 26, .int (nI v), .int (nI F), .null] [] M (fun r M' => r = zB (zForm S (S.2.2.2 v) F = true) ∧ zHR M M') := by
  have h24 := hK.1
  have e1 : za_in L 29 false (nI v) := za_in_of (n := 8) rfl hv (by omega)
  have e2 : (nI v).toNatClampNeg = v := nI_clamp (by omega)
  have e3 := hS.2.2.2 v hv
  have ho := hK.2.2 v hv
  have ho2 : ∀ k, S.2.2.2 v = some k → k < 2 ^ 31 := fun k hk => by have := ho k hk; omega
  generalize ho' : S.2.2.2 v = o at *
  simp only [q95_0, q95_1, q95_4, q95_5, q95_6, e1, e2, e3, true_and]
  rw [q95_7]
  have : F = 0 ∨ F = 1 ∨ F = 2 ∨ F = 3 ∨ F = 4 ∨ F = 5 ∨ F = 6 := by omega
  rcases this with rfl | rfl | rfl | rfl | rfl | rfl | rfl
  · have hz := zE_N ho2
    simp only [q95_8_0, q95_8_1, q95_8_2, q95_8_3, q95_8_4, q95_8_5, q95_48, q95_49, q95_51, q95_54, q95_55, q95_58, q95_59, zb1, zb0]
    by_cases e : o = none
    · rw [if_pos (hz.mpr e)]
      exact ⟨(zB_t (by simp [zForm, e])).symm, fun _ _ => rfl, fun _ _ _ _ => rfl⟩
    · rw [if_neg (fun q => e (hz.mp q))]
      exact ⟨(zB_f (by simp [zForm, e])).symm, fun _ _ => rfl, fun _ _ _ _ => rfl⟩
  · simp only [q95_8_0, q95_8_1, q95_8_2, q95_8_3, q95_8_4, q95_8_5, q95_60, q95_61, q95_62]
    refine zT_mono (s91 hS hK ho) ?_
    rintro r M1 ⟨rfl, a, b⟩
    simp only [q95_65, zB_ok]
    exact ⟨zB_cg (by simp [zForm]), zHR_of b⟩
  · simp only [q95_8_0, q95_8_1, q95_8_2, q95_8_3, q95_8_4, q95_8_5, q95_66, q95_67, q95_68]
    refine zT_mono (s92 hS hK ho) ?_
    rintro r M1 ⟨rfl, b⟩
    simp only [q95_71, zB_ok]
    exact ⟨True.intro, zHR_of b⟩
  · simp only [q95_8_0, q95_8_1, q95_8_2, q95_8_3, q95_8_4, q95_8_5, q95_72, q95_73, q95_74, q95_75]
    refine zT_mono (s90 (g := 1) hS hK ho (Or.inl ⟨rfl, rfl⟩)) ?_
    rintro r M1 ⟨a, b⟩
    have hz := zE_N ho2
    cases hoo : o with
    | none =>
      simp only [zE_n, q95_78, q95_79, q95_81, q95_110, q95_111, if_true, zb0]
      exact ⟨(zB_f (by simp [zForm])).symm, zHR_of b⟩
    | some t =>
      subst hoo
      have ht := ho t rfl
      have hnz : ¬ nI t = zN := zN_ne (by omega)
      have hlen := zG_len a
      have h0 := zRch_0 S (some t) 1
      have hpos := (List.getElem?_eq_some_iff.mp h0).1
      have hu : (zRch S (some t) 1)[(zRch S (some t) 1).length - 1]? = some (zRch S (some t) 1)[(zRch S (some t) 1).length - 1] := List.getElem?_eq_getElem (by omega)
      generalize hue : (zRch S (some t) 1)[(zRch S (some t) 1).length - 1] = u at hu
      have hun := a.2 u (List.mem_of_getElem? hu)
      have hzl : zBl S.2.2.1 (zRch S (some t) 1) = S.2.2.1 (2 * u) := by unfold zBl; rw [hu]
      have hS1 := zGR_V hS b
      have g3 : nI (zRch S (some t) 1).length - nI 1 = nI ((zRch S (some t) 1).length - 1) := pk_sub (by omega)
      have g4 : za_in L 35 false (nI ((zRch S (some t) 1).length - 1)) := za_in_of (n := 24) rfl (by omega) (by omega)
      have g5 : (nI ((zRch S (some t) 1).length - 1)).toNatClampNeg = (zRch S (some t) 1).length - 1 := nI_clamp (by omega)
      have g6 := b.2.1.1 _ u hu
      have g7 := hS1.2.2.1 (2 * u) (by omega)
      have g8 : za_in L 27 false (nI (2 * u)) := za_in_of (n := 48) rfl (by omega) (by omega)
      have g9 : (nI (2 * u)).toNatClampNeg = 2 * u := nI_clamp (by omega)
      have g10 := zE_inj (o := S.2.2.1 (2 * u)) (p := some t) (fun k hk => by have := hK.2.1 _ (show 2 * u < 2 * S.1 by omega) k hk; omega) ho2
      rw [zE_s] at g10
      simp only [zE_s, q95_78, q95_79, q95_81, q95_84, q95_85, q95_88, q95_89, q95_90, q95_93, q95_94, q95_97, q95_98, q95_99, q95_100, q95_101, q95_102, q95_103, q95_106, q95_107, q95_110, q95_111, hnz, if_false, b.1, g3, g4, g5, g6, g7, g8, g9, true_and, pk_mul, g10, zb1, zb0]
      by_cases e : S.2.2.1 (2 * u) = some t
      · rw [if_pos e]
        exact ⟨(zB_t (by simp [zForm, hzl, e])).symm, zHR_of b⟩
      · rw [if_neg e]
        exact ⟨(zB_f (by simp [zForm, hzl, e])).symm, zHR_of b⟩
  · simp only [q95_8_0, q95_8_1, q95_8_2, q95_8_3, q95_8_4, q95_8_5, q95_112, q95_113, q95_114]
    refine zT_mono (s93 hS hK ho) ?_
    rintro r M1 ⟨rfl, b⟩
    simp only [q95_117, zB_ok]
    refine ⟨zB_cg ?_, zHR_of b⟩
    rw [zTree_eq hK ho]
    rfl
  · simp only [q95_8_0, q95_8_1, q95_8_2, q95_8_3, q95_8_4, q95_8_5, q95_118, q95_119, q95_120]
    refine zT_mono (s94 hS hK ho) ?_
    rintro r M1 ⟨rfl, b⟩
    simp only [q95_123, zB_ok]
    exact ⟨True.intro, zHR_of b⟩
  · rw [q95_8_d (Or.inr (by decide))]
    simp only [q95_124, q95_125, zb1]
    exact ⟨(zB_t (by simp [zForm])).symm, fun _ _ => rfl, fun _ _ _ _ => rfl⟩
end ZA
