/-! rules by which a method is read off its instructions -/
def zN : Int32 := -99999999
def za_H (h : Nat) : Prop := h = 6 ∨ h = 14 ∨ h = 20
def za_in (L a : Nat) (z : Bool) (i : Int32) : Prop := ∃ n, za_ln L a z = some n ∧ vp_in i n
section ZR
variable {L y pc : Nat} {ls st : List Value} {M : za_M} {Q : Int32 → za_M → Prop} {pc' : Nat} {ls' st' : List Value} {M' : za_M}
theorem zT_if {P : Prop} [Decidable P] {t f : Nat} (h : za_step L y pc ls st M = some (.inl (if P then t else f, ls', st', M'))) : zT L y pc ls st M Q ↔ (if P then zT L y t ls' st' M' Q else zT L y f ls' st' M' Q) := by
  rw [zT_nx h]
  by_cases hp : P
  · rw [if_pos hp, if_pos hp]
  · rw [if_neg hp, if_neg hp]
theorem zT_ld {z : Bool} {a : Nat} {i : Int32} (h : za_step L y pc ls st M = (match za_ln L a z with
    | some n => if ¬ (i < 0 ∨ n ≤ i.toNatClampNeg) then za_nx pc' ls' st' M' else none
    | none => none)) : zT L y pc ls st M Q ↔ (za_in L a z i ∧ zT L y pc' ls' st' M' Q) := by
  constructor
  · intro hz
    cases hl : za_ln L a z with
    | none => rw [hl] at h; exact absurd hz (zT_no h)
    | some n =>
      rw [hl] at h
      dsimp only at h
      by_cases hc : ¬ (i < 0 ∨ n ≤ i.toNatClampNeg)
      · rw [if_pos hc] at h
        exact ⟨⟨n, hl, hc⟩, (zT_nx h).mp hz⟩
      · rw [if_neg hc] at h
        exact absurd hz (zT_no h)
  · rintro ⟨⟨n, hl, hc⟩, hz⟩
    have hc : ¬ (i < 0 ∨ n ≤ i.toNatClampNeg) := hc
    rw [hl] at h
    dsimp only at h
    rw [if_pos hc] at h
    exact (zT_nx h).mpr hz
theorem zT_sd {z : Bool} {a : Nat} {i : Int32} {C : Prop} [Decidable C] (h : za_step L y pc ls st M = (match za_ln L a z with
    | some n => if ¬ (i < 0 ∨ n ≤ i.toNatClampNeg) ∧ C then za_nx pc' ls' st' M' else none
    | none => none)) : zT L y pc ls st M Q ↔ (za_in L a z i ∧ C ∧ zT L y pc' ls' st' M' Q) := by
  constructor
  · intro hz
    cases hl : za_ln L a z with
    | none => rw [hl] at h; exact absurd hz (zT_no h)
    | some n =>
      rw [hl] at h
      dsimp only at h
      by_cases hc : ¬ (i < 0 ∨ n ≤ i.toNatClampNeg) ∧ C
      · rw [if_pos hc] at h
        exact ⟨⟨n, hl, hc.1⟩, hc.2, (zT_nx h).mp hz⟩
      · rw [if_neg hc] at h
        exact absurd hz (zT_no h)
  · rintro ⟨⟨n, hl, hc⟩, hC, hz⟩
    have hc : ¬ (i < 0 ∨ n ≤ i.toNatClampNeg) := hc
    rw [hl] at h
    dsimp only at h
    rw [if_pos ⟨hc, hC⟩] at h
    exact (zT_nx h).mpr hz
theorem zT_cd {C : Prop} [Decidable C] (h : za_step L y pc ls st M = if C then za_nx pc' ls' st' M' else none) : zT L y pc ls st M Q ↔ (C ∧ zT L y pc' ls' st' M' Q) := by
  by_cases hc : C
  · rw [if_pos hc] at h
    rw [zT_nx h]
    exact ⟨fun q => ⟨hc, q⟩, fun q => q.2⟩
  · rw [if_neg hc] at h
    exact ⟨fun q => absurd q (zT_no h), fun q => absurd q.1 hc⟩
theorem zT_rb {x : Int32} (h : za_step L y pc ls st M = if za_rt y = 1 ∨ (za_rt y = 2 ∧ (x = 0 ∨ x = 1)) then some (.inr (.inr x)) else none) (hr : za_rt y = 2) : zT L y pc ls st M Q ↔ ((x = 0 ∨ x = 1) ∧ Q x M) := by
  by_cases hc : x = 0 ∨ x = 1
  · rw [if_pos (Or.inr ⟨hr, hc⟩)] at h
    rw [zT_rt h]
    exact ⟨fun q => ⟨hc, q⟩, fun q => q.2⟩
  · rw [if_neg (by rintro (q | ⟨-, q⟩); omega; exact hc q)] at h
    exact ⟨fun q => absurd q (zT_no h), fun q => absurd q.1 hc⟩
theorem zT_c0 {z : Nat} {as st' : List Value} {ls0 : List Value} (h : za_step L y pc ls st M = some (.inr (.inl (z, as, st')))) (hr : za_rt z = 0) (he : za_ent z as = ls0) : zT L y pc ls st M Q ↔ zT L z 0 ls0 [] M (fun _ M1 => zT L y (pc + 3) ls st' M1 Q) := by
  rw [zT_cl h, he]
  simp only [hr, if_true]
theorem zT_c1 {z : Nat} {as st' : List Value} {ls0 : List Value} (h : za_step L y pc ls st M = some (.inr (.inl (z, as, st')))) (hr : za_rt z ≠ 0) (he : za_ent z as = ls0) : zT L y pc ls st M Q ↔ zT L z 0 ls0 [] M (fun r M1 => zT L y (pc + 3) ls (.int r :: st') M1 Q) := by
  rw [zT_cl h, he]
  simp only [hr, if_false]
end ZR
