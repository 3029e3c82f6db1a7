/-! the memory as cells of the heap -/
def za_ad (b bs bk k : Nat) : Nat := if k = 100 then bs else if k = 101 then bk else b + k
def za_cv (b bs bk : Nat) (v : Value) : Value := match v with
  | .ref k => .ref (za_ad b bs bk k)
  | v => v
def za_fvs (b : Nat) (M : za_M) (c : Nat) : Nat → List (Option Nat) → List Value
  | _, [] => []
  | k, some q :: fs => .ref (b + q) :: za_fvs b M c (k + 1) fs
  | k, none :: fs => .int (M c k) :: za_fvs b M c (k + 1) fs
def za_cell (cI cZ : ClassId) (b : Nat) (M : za_M) (c : Nat) (x : za_L) : va_E := match x with
  | .inl (ci, fs) => .inr (ci, za_fvs b M c 0 fs)
  | .inr (z, n) => .inl (if z = true then cZ else cI, n, .inl (M c))
def za_W (cI cZ : ClassId) (b : Nat) (M : za_M) : va_W := za_cells.zipIdx.map (fun q => (b + q.2, za_cell cI cZ b M q.2 q.1))
theorem za_W_at (cI cZ : ClassId) (b : Nat) (M : za_M) (c : Nat) : (za_W cI cZ b M)[c]? = za_cells[c]?.map (fun x => (b + c, za_cell cI cZ b M c x)) := by
  simp only [za_W, List.getElem?_map, List.getElem?_zipIdx, Option.map_map, Nat.zero_add]
  rfl
theorem za_at_lt {L c : Nat} (h : c < 42) : za_at L c = za_cells[c]? := by
  unfold za_at
  rw [if_neg (by omega), if_neg (by omega)]
theorem za_ad_lt {b bs bk c : Nat} (h : c < 42) : za_ad b bs bk c = b + c := by
  unfold za_ad
  rw [if_neg (by omega), if_neg (by omega)]
theorem za_W_get {L c : Nat} {x : za_L} (cI cZ : ClassId) (b : Nat) (M : za_M) (hc : c < 42) (h : za_at L c = some x) : (za_W cI cZ b M)[c]? = some (b + c, za_cell cI cZ b M c x) := by
  rw [za_at_lt hc] at h
  rw [za_W_at, h]
  rfl
theorem za_fvs_at (b : Nat) (M : za_M) (c : Nat) : ∀ (fs : List (Option Nat)) (k j : Nat), (za_fvs b M c k fs)[j]? = fs[j]?.map (fun o => match o with
    | some q => Value.ref (b + q)
    | none => Value.int (M c (k + j)))
  | [], k, j => by simp [za_fvs]
  | some q :: fs, k, j => by
    cases j with
    | zero => simp [za_fvs]
    | succ j =>
      simp only [za_fvs, List.getElem?_cons_succ]
      rw [za_fvs_at b M c fs (k + 1) j]
      simp only [Nat.add_assoc, Nat.add_comm 1 j]
  | none :: fs, k, j => by
    cases j with
    | zero => simp [za_fvs]
    | succ j =>
      simp only [za_fvs, List.getElem?_cons_succ]
      rw [za_fvs_at b M c fs (k + 1) j]
      simp only [Nat.add_assoc, Nat.add_comm 1 j]
theorem za_fvs_cg (b : Nat) {M N : za_M} {c : Nat} (h : M c = N c) : ∀ (fs : List (Option Nat)) (k : Nat), za_fvs b M c k fs = za_fvs b N c k fs
  | [], _ => rfl
  | some q :: fs, k => by simp only [za_fvs, za_fvs_cg b h fs (k + 1)]
  | none :: fs, k => by simp only [za_fvs, za_fvs_cg b h fs (k + 1), h]
theorem za_cell_cg (cI cZ : ClassId) (b : Nat) {M N : za_M} {c : Nat} (h : M c = N c) (x : za_L) : za_cell cI cZ b M c x = za_cell cI cZ b N c x := by
  rcases x with ⟨ci, fs⟩ | ⟨z, n⟩
  · simp only [za_cell, za_fvs_cg b h]
  · simp only [za_cell, h]
theorem za_row_ne {M : za_M} {c q : Nat} {f : Nat → Int32} (h : q ≠ c) : za_row M c f q = M q := by simp [za_row, h]
theorem za_row_eq {M : za_M} {c : Nat} {f : Nat → Int32} : za_row M c f c = f := by simp [za_row]
theorem za_fvs_set (b : Nat) (M : za_M) (c k : Nat) (x : Int32) (fs : List (Option Nat)) (h : fs[k]? = some none) : (za_fvs b M c 0 fs).set k (.int x) = za_fvs b (za_up M c k x) c 0 fs := by
  have hl : k < fs.length := (List.getElem?_eq_some_iff.mp h).1
  have hlen : (za_fvs b M c 0 fs).length = fs.length := by
    have : ∀ (fs : List (Option Nat)) (k : Nat), (za_fvs b M c k fs).length = fs.length := by
      intro fs
      induction fs with
      | nil => intro k; rfl
      | cons o fs ih => intro k; cases o <;> simp [za_fvs, ih]
    exact this fs 0
  apply List.ext_getElem?
  intro j
  rw [za_fvs_at]
  by_cases hj : j = k
  · subst hj
    rw [List.getElem?_set_self (by rw [hlen]; exact hl), h]
    simp [za_up, za_row_eq, upd]
  · rw [List.getElem?_set_ne (Ne.symm hj), za_fvs_at]
    cases fs[j]? with
    | none => rfl
    | some o => cases o <;> simp [za_up, za_row_eq, upd, hj]
theorem za_W_set {cI cZ : ClassId} {b : Nat} {M N : za_M} {c : Nat} {x : za_L} {e : va_E} (hx : za_cells[c]? = some x) (hN : ∀ q, q ≠ c → N q = M q) (he : e = za_cell cI cZ b N c x) : (za_W cI cZ b M).set c (b + c, e) = za_W cI cZ b N := by
  have hl : c < (za_W cI cZ b M).length := by
    have h2 : c < za_cells.length := (List.getElem?_eq_some_iff.mp hx).1
    simpa [za_W] using h2
  apply List.ext_getElem?
  intro j
  by_cases hj : j = c
  · subst hj
    rw [List.getElem?_set_self hl, za_W_at, hx, he]
    rfl
  · rw [List.getElem?_set_ne (Ne.symm hj), za_W_at, za_W_at]
    cases za_cells[j]? with
    | none => rfl
    | some y => simp only [Option.map_some, za_cell_cg cI cZ b (hN j hj).symm]
theorem za_WD (cI cZ : ClassId) (b : Nat) (M : za_M) : va_D (fun q => b ≤ q) (za_W cI cZ b M) := by
  have key : ∀ (i : Nat) (p : Nat × va_E), (za_W cI cZ b M)[i]? = some p → p.1 = b + i := by
    intro i p h
    rw [za_W_at] at h
    cases hx : za_cells[i]? with
    | none => rw [hx] at h; cases h
    | some x => rw [hx] at h; cases h; rfl
  refine ⟨fun i j p q hi hj hpq => ?_, fun k q hk => ?_⟩
  · have h1 := key i p hi
    have h2 := key j q hj
    omega
  · have h1 := key k q hk
    show b ≤ q.1
    omega
/-- locals: what the slots hold -/
def za_lv (b bs bk : Nat) (lv : Array Slot) (nL : Nat) (ls : List Value) : Prop := lv.size = nL ∧ ls.length = nL ∧ lv_wf lv ∧ (∀ (i : Nat) (x : Int32), ls[i]? = some (.int x) → lv[i]? = some (.val (.int x))) ∧ (∀ (i r : Nat), ls[i]? = some (.ref r) → lv[i]? = some (.val (.ref (za_ad b bs bk r))))
def za_pr (b bs bk : Nat) (q : Value × Nat) : Option (Nat × Value) := match q.1 with
  | .int x => some (q.2, .int x)
  | .ref r => some (q.2, .ref (za_ad b bs bk r))
  | _ => none
def za_ps (b bs bk : Nat) (ls : List Value) : List (Nat × Value) := ls.zipIdx.filterMap (za_pr b bs bk)
theorem za_ps_int {b bs bk : Nat} {ls : List Value} {i : Nat} {x : Int32} (h : ls[i]? = some (.int x)) : (i, Value.int x) ∈ za_ps b bs bk ls := by
  refine List.mem_filterMap.mpr ⟨(.int x, i), ?_, rfl⟩
  exact List.mem_zipIdx_iff_getElem?.mpr h
theorem za_ps_ref {b bs bk : Nat} {ls : List Value} {i r : Nat} (h : ls[i]? = some (.ref r)) : (i, Value.ref (za_ad b bs bk r)) ∈ za_ps b bs bk ls := by
  refine List.mem_filterMap.mpr ⟨(.ref r, i), ?_, rfl⟩
  exact List.mem_zipIdx_iff_getElem?.mpr h
theorem za_lv_has {b bs bk : Nat} {lv : Array Slot} {nL : Nat} {ls : List Value} (h : za_lv b bs bk lv nL ls) : lv_has lv nL (za_ps b bs bk ls) := by
  obtain ⟨h1, h2, h3, h4, h5⟩ := h
  refine ⟨h1, h3, fun q hq => ?_⟩
  obtain ⟨⟨v, i⟩, hm, hp⟩ := List.mem_filterMap.mp hq
  have hi : ls[i]? = some v := List.mem_zipIdx_iff_getElem?.mp hm
  cases v <;> simp only [za_pr] at hp <;> cases hp
  · exact h4 _ _ hi
  · exact h5 _ _ hi
theorem za_lv_set {b bs bk : Nat} {lv lv' : Array Slot} {nL : Nat} {ls : List Value} {i : Nat} {v : Value} (h : za_lv b bs bk lv nL ls) (hi : i < nL) (hv : (∃ x, v = .int x) ∨ ∃ r, v = .ref r)
    (hl : lv_has lv' nL ((i, za_cv b bs bk v) :: (za_ps b bs bk ls).filter (fun q => !(q.1 == i) && !(q.1 + 1 == i && q.2.category == 2)))) : za_lv b bs bk lv' nL (ls.set i v) := by
  obtain ⟨h1, h2, h3, h4, h5⟩ := h
  obtain ⟨g1, g2, g3⟩ := hl
  have hil : i < ls.length := by omega
  have hit : lv'[i]? = some (.val (za_cv b bs bk v)) := g3 _ List.mem_cons_self
  refine ⟨g1, by rw [List.length_set]; exact h2, g2, fun j x hj => ?_, fun j r hj => ?_⟩
  · by_cases e : j = i
    · subst e
      rw [List.getElem?_set_self hil] at hj
      cases hj
      exact hit
    · rw [List.getElem?_set_ne (Ne.symm e)] at hj
      refine g3 (j, .int x) (List.mem_cons_of_mem _ (List.mem_filter.mpr ⟨za_ps_int hj, ?_⟩))
      simp [e, Value.category]
  · by_cases e : j = i
    · subst e
      rw [List.getElem?_set_self hil] at hj
      cases hj
      exact hit
    · rw [List.getElem?_set_ne (Ne.symm e)] at hj
      refine g3 (j, .ref (za_ad b bs bk r)) (List.mem_cons_of_mem _ (List.mem_filter.mpr ⟨za_ps_ref hj, ?_⟩))
      simp [e, Value.category]
theorem za_sl {vs : List Value} (h : ∀ v ∈ vs, v.category = 1) : lg_sl vs = vs.map Slot.val := by
  induction vs with
  | nil => rfl
  | cons v vs ih =>
    have h1 := h v List.mem_cons_self
    have h2 := ih (fun w hw => h w (List.mem_cons_of_mem _ hw))
    unfold lg_sl at h2 ⊢
    rw [List.flatMap_cons, h2, if_neg (by omega)]
    rfl
theorem za_cv_cat {b bs bk : Nat} {v : Value} : (za_cv b bs bk v).category = v.category := by cases v <;> rfl
theorem za_lv_entry {b bs bk : Nat} {as : List Value} {n : Nat} (h : ∀ v ∈ as, v.category = 1) (hn : as.length ≤ n) : za_lv b bs bk ((lg_sl (as.map (za_cv b bs bk)) ++ List.replicate (n - (lg_sl (as.map (za_cv b bs bk))).length) Slot.unset).toArray) n (as ++ List.replicate (n - as.length) .null) := by
  have hc : ∀ v ∈ as.map (za_cv b bs bk), v.category = 1 := by
    intro v hv
    obtain ⟨w, hw, rfl⟩ := List.mem_map.mp hv
    rw [za_cv_cat]
    exact h w hw
  have hs := za_sl hc
  have hlen : (lg_sl (as.map (za_cv b bs bk))).length = as.length := by rw [hs]; simp
  have hl := lv_entry (as.map (za_cv b bs bk)) (n := n) (by rw [hlen]; exact hn)
  obtain ⟨g1, g2, g3⟩ := hl
  have key : ∀ (i : Nat) (v : Value), (as ++ List.replicate (n - as.length) Value.null)[i]? = some v → v ≠ .null → ((lg_sl (as.map (za_cv b bs bk)) ++ List.replicate (n - (lg_sl (as.map (za_cv b bs bk))).length) Slot.unset).toArray)[i]? = some (.val (za_cv b bs bk v)) := by
    intro i v hi hv
    have hil : i < as.length := by
      rcases Nat.lt_or_ge i as.length with q | q
      · exact q
      · rw [List.getElem?_append_right q, List.getElem?_replicate] at hi
        split at hi
        · cases hi; exact absurd rfl hv
        · cases hi
    rw [List.getElem?_append_left hil] at hi
    rw [List.getElem?_toArray, List.getElem?_append_left (by rw [hlen]; exact hil), hs, List.getElem?_map, List.getElem?_map, hi]
    rfl
  refine ⟨g1, by simp; omega, g2, fun i x hi => key i _ hi (by simp), fun i r hi => key i _ hi (by simp)⟩
