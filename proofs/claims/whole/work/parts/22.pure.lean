/-! the pure side: a heap of nodes, its views in memory, a program, a step, a run -/
abbrev zS : Type := Nat × (Nat → Int32) × (Nat → Option Nat) × (Nat → Option Nat)
def zV (M : za_M) (cn fn ck cl cv : Nat) (S : zS) : Prop := M cn fn = nI S.1 ∧ (∀ i, i < S.1 → M ck i = S.2.1 i) ∧ (∀ j, j < 2 * S.1 → M cl j = zE (S.2.2.1 j)) ∧ (∀ v, v < 8 → M cv v = zE (S.2.2.2 v))
def zK (S : zS) : Prop := S.1 ≤ 24 ∧ (∀ j, j < 2 * S.1 → ∀ k, S.2.2.1 j = some k → k < S.1) ∧ (∀ v, v < 8 → ∀ k, S.2.2.2 v = some k → k < S.1)
abbrev zC (M : za_M) (h : Nat) (S : zS) : Prop := zV M h 3 (h + 1) (h + 2) (h + 3) S
abbrev zMo (M : za_M) (S : zS) : Prop := zV M 26 0 28 27 29 S
def zS_drop (S : zS) : zS := (0, S.2.1, S.2.2.1, fun _ => none)
def zS_add (S : zS) (key : Int32) : zS := (S.1 + 1, fun i => if i = S.1 then key else S.2.1 i, fun j => if j = 2 * S.1 ∨ j = 2 * S.1 + 1 then none else S.2.2.1 j, S.2.2.2)
def zS_link (S : zS) (j : Nat) (o : Option Nat) : zS := (S.1, S.2.1, fun i => if i = j then o else S.2.2.1 i, S.2.2.2)
def zS_hold (S : zS) (v : Nat) (o : Option Nat) : zS := (S.1, S.2.1, S.2.2.1, fun i => if i = v then o else S.2.2.2 i)
def zS_key (S : zS) (k : Nat) (x : Int32) : zS := (S.1, fun i => if i = k then x else S.2.1 i, S.2.2.1, S.2.2.2)
def zAp (cn ck cl cv : Nat) : Prop := cn ≠ ck ∧ cn ≠ cl ∧ cn ≠ cv ∧ ck ≠ cl ∧ ck ≠ cv ∧ cl ≠ cv
theorem zAp_C (h : Nat) : zAp h (h + 1) (h + 2) (h + 3) := ⟨by omega, by omega, by omega, by omega, by omega, by omega⟩
theorem zAp_M : zAp 26 28 27 29 := ⟨by omega, by omega, by omega, by omega, by omega, by omega⟩
section ZP
variable {M M' : za_M} {cn fn ck cl cv : Nat} {S : zS}
theorem zV_cg (h : zV M cn fn ck cl cv S) (h1 : M' cn = M cn) (h2 : M' ck = M ck) (h3 : M' cl = M cl) (h4 : M' cv = M cv) : zV M' cn fn ck cl cv S := by
  unfold zV
  rw [h1, h2, h3, h4]
  exact h
theorem zV_key (hA : zAp cn ck cl cv) (h : zV M cn fn ck cl cv S) (k : Nat) (x : Int32) : zV (za_up M ck k x) cn fn ck cl cv (zS_key S k x) := by
  obtain ⟨a1, a2, a3, a4, a5, a6⟩ := hA
  obtain ⟨h1, h2, h3, h4⟩ := h
  refine ⟨?_, fun i hi => ?_, fun j hj => ?_, fun v hv => ?_⟩
  · rw [za_up_oc a1]; exact h1
  · rw [za_up_at, if_pos rfl]
    show _ = if i = k then x else S.2.1 i
    by_cases e : i = k
    · rw [if_pos e, if_pos e]
    · rw [if_neg e, if_neg e]; exact h2 i hi
  · rw [za_up_oc (Ne.symm a4)]; exact h3 j hj
  · rw [za_up_oc (Ne.symm a5)]; exact h4 v hv
theorem zV_link (hA : zAp cn ck cl cv) (h : zV M cn fn ck cl cv S) (j : Nat) (o : Option Nat) : zV (za_up M cl j (zE o)) cn fn ck cl cv (zS_link S j o) := by
  obtain ⟨a1, a2, a3, a4, a5, a6⟩ := hA
  obtain ⟨h1, h2, h3, h4⟩ := h
  refine ⟨?_, fun i hi => ?_, fun i hi => ?_, fun v hv => ?_⟩
  · rw [za_up_oc a2]; exact h1
  · rw [za_up_oc a4]; exact h2 i hi
  · rw [za_up_at, if_pos rfl]
    show _ = zE (if i = j then o else S.2.2.1 i)
    by_cases e : i = j
    · rw [if_pos e, if_pos e]
    · rw [if_neg e, if_neg e]; exact h3 i hi
  · rw [za_up_oc (Ne.symm a6)]; exact h4 v hv
theorem zV_hold (hA : zAp cn ck cl cv) (h : zV M cn fn ck cl cv S) (v : Nat) (o : Option Nat) : zV (za_up M cv v (zE o)) cn fn ck cl cv (zS_hold S v o) := by
  obtain ⟨a1, a2, a3, a4, a5, a6⟩ := hA
  obtain ⟨h1, h2, h3, h4⟩ := h
  refine ⟨?_, fun i hi => ?_, fun i hi => ?_, fun w hw => ?_⟩
  · rw [za_up_oc a3]; exact h1
  · rw [za_up_oc a5]; exact h2 i hi
  · rw [za_up_oc a6]; exact h3 i hi
  · rw [za_up_at, if_pos rfl]
    show _ = zE (if w = v then o else S.2.2.2 w)
    by_cases e : w = v
    · rw [if_pos e, if_pos e]
    · rw [if_neg e, if_neg e]; exact h4 w hw
theorem zV_add {key : Int32} (h : zV M cn fn ck cl cv S) (h1 : M' cn fn = nI (S.1 + 1)) (h2 : ∀ i, M' ck i = if i = S.1 then key else M ck i) (h3 : ∀ j, M' cl j = if j = 2 * S.1 ∨ j = 2 * S.1 + 1 then zN else M cl j) (h4 : ∀ v, M' cv v = M cv v) : zV M' cn fn ck cl cv (zS_add S key) := by
  obtain ⟨g1, g2, g3, g4⟩ := h
  refine ⟨h1, fun i hi => ?_, fun j hj => ?_, fun v hv => ?_⟩
  · rw [h2]
    show _ = if i = S.1 then key else S.2.1 i
    have hi : i < S.1 + 1 := hi
    by_cases e : i = S.1
    · rw [if_pos e, if_pos e]
    · rw [if_neg e, if_neg e]; exact g2 i (by omega)
  · rw [h3]
    show _ = zE (if j = 2 * S.1 ∨ j = 2 * S.1 + 1 then none else S.2.2.1 j)
    have hj : j < 2 * (S.1 + 1) := hj
    by_cases e : j = 2 * S.1 ∨ j = 2 * S.1 + 1
    · rw [if_pos e, if_pos e]; rfl
    · rw [if_neg e, if_neg e]; exact g3 j (by omega)
  · rw [h4]; exact g4 v hv
theorem zV_drop (h1 : M' cn fn = nI 0) (h4 : ∀ v, v < 8 → M' cv v = zN) : zV M' cn fn ck cl cv (zS_drop S) := ⟨h1, fun i hi => absurd hi (Nat.not_lt_zero i), fun j hj => absurd hj (Nat.not_lt_zero j), fun v hv => h4 v hv⟩
theorem zK_key (h : zK S) (k : Nat) (x : Int32) : zK (zS_key S k x) := h
theorem zK_link (h : zK S) (j : Nat) {o : Option Nat} (ho : ∀ k, o = some k → k < S.1) : zK (zS_link S j o) := by
  refine ⟨h.1, fun i hi k hk => ?_, h.2.2⟩
  have hk : (if i = j then o else S.2.2.1 i) = some k := hk
  by_cases e : i = j
  · rw [if_pos e] at hk; exact ho k hk
  · rw [if_neg e] at hk; exact h.2.1 i hi k hk
theorem zK_hold (h : zK S) (v : Nat) {o : Option Nat} (ho : ∀ k, o = some k → k < S.1) : zK (zS_hold S v o) := by
  refine ⟨h.1, h.2.1, fun i hi k hk => ?_⟩
  have hk : (if i = v then o else S.2.2.2 i) = some k := hk
  by_cases e : i = v
  · rw [if_pos e] at hk; exact ho k hk
  · rw [if_neg e] at hk; exact h.2.2 i hi k hk
theorem zK_add (h : zK S) (hn : S.1 < 24) (key : Int32) : zK (zS_add S key) := by
  refine ⟨hn, fun j hj k hk => ?_, fun v hv k hk => Nat.lt_succ_of_lt (h.2.2 v hv k hk)⟩
  have hk : (if j = 2 * S.1 ∨ j = 2 * S.1 + 1 then none else S.2.2.1 j) = some k := hk
  have hj : j < 2 * (S.1 + 1) := hj
  by_cases e : j = 2 * S.1 ∨ j = 2 * S.1 + 1
  · rw [if_pos e] at hk; cases hk
  · rw [if_neg e] at hk; exact Nat.lt_succ_of_lt (h.2.1 j (by omega) k hk)
theorem zK_drop : zK (zS_drop S) := ⟨Nat.zero_le _, fun j hj => absurd hj (Nat.not_lt_zero j), fun v hv k hk => by cases hk⟩
end ZP
/-- a program -/
abbrev zQ : Type := Int32 × Int32 × Int32 × Int32
def zVr (x : Int32) : Prop := ∃ v, v < 8 ∧ x = nI v
def zFl (x : Int32) : Prop := ∃ v, v < 2 ∧ x = nI v
def zPl (x : Int32) : Prop := ∃ v, v < 60 ∧ x = nI v
def zI (q : zQ) : Prop := ∃ o, q.1 = nI o ∧ match o with
  | 0 => zVr q.2.1
  | 1 => zVr q.2.1
  | 2 => zVr q.2.1 ∧ zVr q.2.2.1
  | 3 => zVr q.2.1 ∧ zVr q.2.2.1 ∧ zFl q.2.2.2
  | 4 => zVr q.2.1 ∧ zFl q.2.2.1 ∧ zVr q.2.2.2
  | 5 => zVr q.2.1 ∧ zPl q.2.2.1
  | 6 => zVr q.2.1 ∧ zVr q.2.2.1 ∧ zPl q.2.2.2
  | 7 => zVr q.2.1 ∧ zVr q.2.2.1 ∧ zPl q.2.2.2
  | 8 => zPl q.2.1
  | 9 => zVr q.2.1
  | 10 => True
  | _ => False
def zPV (M : za_M) (cn fn co ca cb cc : Nat) (p : Nat) (pr : Nat → zQ) : Prop := M cn fn = nI p ∧ ∀ i, i < p → M co i = (pr i).1 ∧ M ca i = (pr i).2.1 ∧ M cb i = (pr i).2.2.1 ∧ M cc i = (pr i).2.2.2
abbrev zPC (M : za_M) (p : Nat) (pr : Nat → zQ) : Prop := zPV M 1 4 2 3 4 5 p pr
abbrev zPM (M : za_M) (p : Nat) (pr : Nat → zQ) : Prop := zPV M 26 4 30 31 32 33 p pr
def zPK (p : Nat) (pr : Nat → zQ) : Prop := p ≤ 60 ∧ ∀ i, i < p → zI (pr i)
/-- one instruction: where it goes on, or how it stops; the heap then -/
def zStep (S : zS) (q : zQ) (i : Nat) : (Nat ⊕ Nat) × zS := match q.1.toNatClampNeg with
  | 0 => if S.1 = 24 then (.inr 3, S) else (.inl (i + 1), zS_hold (zS_add S q.2.2.1) q.2.1.toNatClampNeg (some S.1))
  | 1 => (.inl (i + 1), zS_hold S q.2.1.toNatClampNeg none)
  | 2 => (.inl (i + 1), zS_hold S q.2.1.toNatClampNeg (S.2.2.2 q.2.2.1.toNatClampNeg))
  | 3 => (match S.2.2.2 q.2.2.1.toNatClampNeg with
    | none => (.inr 1, S)
    | some k => (.inl (i + 1), zS_hold S q.2.1.toNatClampNeg (S.2.2.1 (2 * k + q.2.2.2.toNatClampNeg))))
  | 4 => (match S.2.2.2 q.2.1.toNatClampNeg with
    | none => (.inr 1, S)
    | some k => (.inl (i + 1), zS_link S (2 * k + q.2.2.1.toNatClampNeg) (S.2.2.2 q.2.2.2.toNatClampNeg)))
  | 5 => (.inl (if S.2.2.2 q.2.1.toNatClampNeg = none then q.2.2.1.toNatClampNeg else i + 1), S)
  | 6 => (.inl (if S.2.2.2 q.2.1.toNatClampNeg = S.2.2.2 q.2.2.1.toNatClampNeg then q.2.2.2.toNatClampNeg else i + 1), S)
  | 7 => (match S.2.2.2 q.2.1.toNatClampNeg with
    | none => (.inr 1, S)
    | some k => (match S.2.2.2 q.2.2.1.toNatClampNeg with
      | none => (.inr 1, S)
      | some j => (.inl (if S.2.1 k < S.2.1 j then q.2.2.2.toNatClampNeg else i + 1), S)))
  | 8 => (.inl q.2.1.toNatClampNeg, S)
  | 9 => (match S.2.2.2 q.2.1.toNatClampNeg with
    | none => (.inr 1, S)
    | some k => (.inl (i + 1), zS_key S k q.2.2.1))
  | _ => (.inr 0, S)
/-- a run from place i on, d instructions done, the last one's place: how it ended, the heap, the numbers -/
def zRun (p : Nat) (pr : Nat → zQ) : Nat → zS → Nat → Nat → Option Nat → Nat × zS × Nat × Option Nat
  | 0, S, i, d, la => if i < p then (2, S, d, la) else (0, S, d, la)
  | k + 1, S, i, d, la => if i < p then (match zStep S (pr i) i with
    | (.inr o, S') => (o, S', d + 1, some i)
    | (.inl j, S') => zRun p pr k S' j (d + 1) (some i)) else (0, S, d, la)
theorem zStep_K {S : zS} {q : zQ} {i : Nat} (hS : zK S) (hq : zI q) : zK (zStep S q i).2 ∧ (∀ j, (zStep S q i).1 = .inl j → j < 60 ∨ j = i + 1) ∧ ∀ o, (zStep S q i).1 = .inr o → o ≤ 3 := by
  obtain ⟨o, ho, hm⟩ := hq
  obtain ⟨q1, a, b, c⟩ := q
  dsimp only at ho hm
  subst ho
  match o, hm with
  | 0, ⟨v, hv, e⟩ =>
    subst e
    unfold zStep
    rw [show (nI 0).toNatClampNeg = 0 from by decide]
    dsimp only
    by_cases e : S.1 = 24
    · rw [if_pos e]; exact ⟨hS, fun j h => (by cases h), fun o h => by cases h; omega⟩
    · rw [if_neg e]
      refine ⟨zK_hold (zK_add hS (by have := hS.1; omega) b) _ (fun k hk => by cases hk; exact Nat.lt_succ_self _), fun j h => (by cases h; exact Or.inr rfl), fun o h => by cases h⟩
  | 1, ⟨v, hv, e⟩ =>
    subst e
    unfold zStep
    rw [show (nI 1).toNatClampNeg = 1 from by decide]
    exact ⟨zK_hold hS _ (fun k hk => by cases hk), fun j h => (by cases h; exact Or.inr rfl), fun o h => by cases h⟩
  | 2, ⟨⟨v, hv, e⟩, ⟨w, hw, e2⟩⟩ =>
    subst e e2
    unfold zStep
    rw [show (nI 2).toNatClampNeg = 2 from by decide]
    dsimp only
    rw [nI_clamp (show w < 2 ^ 31 by omega)]
    exact ⟨zK_hold hS _ (hS.2.2 w hw), fun j h => (by cases h; exact Or.inr rfl), fun o h => by cases h⟩
  | 3, ⟨⟨v, hv, e⟩, ⟨w, hw, e2⟩, ⟨f, hf, e3⟩⟩ =>
    subst e e2 e3
    unfold zStep
    rw [show (nI 3).toNatClampNeg = 3 from by decide]
    dsimp only
    rw [nI_clamp (show w < 2 ^ 31 by omega), nI_clamp (show f < 2 ^ 31 by omega)]
    cases hw2 : S.2.2.2 w with
    | none => exact ⟨hS, fun j h => (by cases h), fun o h => by cases h; omega⟩
    | some k =>
      have hk := hS.2.2 w hw k hw2
      exact ⟨zK_hold hS _ (hS.2.1 _ (by omega)), fun j h => (by cases h; exact Or.inr rfl), fun o h => by cases h⟩
  | 4, ⟨⟨v, hv, e⟩, ⟨f, hf, e2⟩, ⟨w, hw, e3⟩⟩ =>
    subst e e2 e3
    unfold zStep
    rw [show (nI 4).toNatClampNeg = 4 from by decide]
    dsimp only
    rw [nI_clamp (show w < 2 ^ 31 by omega)]
    cases hw2 : S.2.2.2 (nI v).toNatClampNeg with
    | none => exact ⟨hS, fun j h => (by cases h), fun o h => by cases h; omega⟩
    | some k => exact ⟨zK_link hS _ (hS.2.2 w hw), fun j h => (by cases h; exact Or.inr rfl), fun o h => by cases h⟩
  | 5, ⟨⟨v, hv, e⟩, ⟨w, hw, e2⟩⟩ =>
    subst e e2
    unfold zStep
    rw [show (nI 5).toNatClampNeg = 5 from by decide]
    dsimp only
    rw [nI_clamp (show w < 2 ^ 31 by omega)]
    refine ⟨hS, fun j h => ?_, fun o h => by cases h⟩
    cases h
    split
    · exact Or.inl hw
    · exact Or.inr rfl
  | 6, ⟨⟨v, hv, e⟩, ⟨u, hu, e2⟩, ⟨w, hw, e3⟩⟩ =>
    subst e e2 e3
    unfold zStep
    rw [show (nI 6).toNatClampNeg = 6 from by decide]
    dsimp only
    rw [nI_clamp (show w < 2 ^ 31 by omega)]
    refine ⟨hS, fun j h => ?_, fun o h => by cases h⟩
    cases h
    split
    · exact Or.inl hw
    · exact Or.inr rfl
  | 7, ⟨⟨v, hv, e⟩, ⟨u, hu, e2⟩, ⟨w, hw, e3⟩⟩ =>
    subst e e2 e3
    unfold zStep
    rw [show (nI 7).toNatClampNeg = 7 from by decide]
    dsimp only
    rw [nI_clamp (show w < 2 ^ 31 by omega)]
    cases h1 : S.2.2.2 (nI v).toNatClampNeg with
    | none => exact ⟨hS, fun j h => (by cases h), fun o h => by cases h; omega⟩
    | some k =>
      cases h2 : S.2.2.2 (nI u).toNatClampNeg with
      | none => exact ⟨hS, fun j h => (by cases h), fun o h => by cases h; omega⟩
      | some j =>
        refine ⟨hS, fun j h => ?_, fun o h => by cases h⟩
        cases h
        split
        · exact Or.inl hw
        · exact Or.inr rfl
  | 8, ⟨w, hw, e⟩ =>
    subst e
    unfold zStep
    rw [show (nI 8).toNatClampNeg = 8 from by decide]
    dsimp only
    rw [nI_clamp (show w < 2 ^ 31 by omega)]
    exact ⟨hS, fun j h => (by cases h; exact Or.inl hw), fun o h => by cases h⟩
  | 9, ⟨v, hv, e⟩ =>
    subst e
    unfold zStep
    rw [show (nI 9).toNatClampNeg = 9 from by decide]
    dsimp only
    cases h1 : S.2.2.2 (nI v).toNatClampNeg with
    | none => exact ⟨hS, fun j h => (by cases h), fun o h => by cases h; omega⟩
    | some k => exact ⟨zK_key hS _ _, fun j h => (by cases h; exact Or.inr rfl), fun o h => by cases h⟩
  | 10, _ =>
    unfold zStep
    rw [show (nI 10).toNatClampNeg = 10 from by decide]
    exact ⟨hS, fun j h => (by cases h), fun o h => by cases h; omega⟩
theorem zRun_K {p : Nat} {pr : Nat → zQ} (hp : zPK p pr) : ∀ (k : Nat) (S : zS) (i d : Nat) (la : Option Nat), zK S → (∀ j, la = some j → j < 60) → zK (zRun p pr k S i d la).2.1 ∧ (zRun p pr k S i d la).1 ≤ 3 ∧ (zRun p pr k S i d la).2.2.1 ≤ d + k ∧ (∀ j, (zRun p pr k S i d la).2.2.2 = some j → j < 60) := by
  intro k
  induction k with
  | zero =>
    intro S i d la hS hla
    unfold zRun
    split
    · exact ⟨hS, by show 2 ≤ 3; omega, Nat.le_refl _, hla⟩
    · exact ⟨hS, by show 0 ≤ 3; omega, Nat.le_refl _, hla⟩
  | succ k ih =>
    intro S i d la hS hla
    unfold zRun
    split
    · rename_i hi
      have hi60 : i < 60 := Nat.lt_of_lt_of_le hi hp.1
      obtain ⟨h1, h2, h3⟩ := zStep_K (i := i) hS (hp.2 i hi)
      cases hz : zStep S (pr i) i with
      | mk r S' =>
        rw [hz] at h1 h2 h3
        cases r with
        | inr o => exact ⟨h1, h3 o rfl, by show d + 1 ≤ d + (k + 1); omega, fun j hj => by cases hj; exact hi60⟩
        | inl j =>
          have := ih S' j (d + 1) (some i) h1 (fun j hj => by cases hj; exact hi60)
          refine ⟨this.1, this.2.1, ?_, this.2.2.2⟩
          have h4 := this.2.2.1
          show (zRun p pr k S' j (d + 1) (some i)).2.2.1 ≤ d + (k + 1)
          omega
    · exact ⟨hS, by show 0 ≤ 3; omega, by show d ≤ d + (k + 1); omega, hla⟩
