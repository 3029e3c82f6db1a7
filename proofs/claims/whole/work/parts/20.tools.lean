/-! tools for the methods: truth values, numbers, memory -/
def zB (P : Prop) [Decidable P] : Int32 := if P then nI 1 else nI 0
theorem zB_t {P : Prop} [Decidable P] (h : P) : zB P = nI 1 := if_pos h
theorem zB_f {P : Prop} [Decidable P] (h : ¬ P) : zB P = nI 0 := if_neg h
theorem zB_0 {P : Prop} [Decidable P] : zB P = 0 ↔ ¬ P := by
  by_cases h : P
  · rw [zB_t h]; exact ⟨fun q => absurd q (by decide), fun q => absurd h q⟩
  · rw [zB_f h]; exact ⟨fun _ => h, fun _ => by decide⟩
theorem zB_ok {P C : Prop} [Decidable P] : ((zB P = 0 ∨ zB P = 1) ∧ C) ↔ C := by
  by_cases h : P
  · rw [zB_t h]; exact ⟨fun q => q.2, fun q => ⟨Or.inr (by decide), q⟩⟩
  · rw [zB_f h]; exact ⟨fun q => q.2, fun q => ⟨Or.inl (by decide), q⟩⟩
theorem zb1 {C : Prop} : ((nI 1 = 0 ∨ nI 1 = 1) ∧ C) ↔ C := ⟨fun q => q.2, fun q => ⟨Or.inr (by decide), q⟩⟩
theorem zb0 {C : Prop} : ((nI 0 = 0 ∨ nI 0 = 1) ∧ C) ↔ C := ⟨fun q => q.2, fun q => ⟨Or.inl (by decide), q⟩⟩
theorem z10 : (nI 1 = 0) = False := eq_false (by decide)
theorem z00 : (nI 0 = 0) = True := eq_true (by decide)
theorem zN_neg : zN < 0 := by decide
theorem zN_ne {k : Nat} (h : k < 2 ^ 31) : ¬ nI k = zN := by
  intro e
  have h1 := nI_toInt h
  rw [e] at h1
  have h2 : zN.toInt = -99999999 := by decide
  omega
theorem zN_ne' {k : Nat} (h : k < 2 ^ 31) : ¬ zN = nI k := fun e => zN_ne h e.symm
def zE (o : Option Nat) : Int32 := match o with
  | none => zN
  | some k => nI k
theorem zE_n : zE none = zN := rfl
theorem zE_s (k : Nat) : zE (some k) = nI k := rfl
theorem zE_N {o : Option Nat} (h : ∀ k, o = some k → k < 2 ^ 31) : zE o = zN ↔ o = none := by
  cases o with
  | none => exact ⟨fun _ => rfl, fun _ => rfl⟩
  | some k => exact ⟨fun e => absurd e (zN_ne (h k rfl)), fun e => by cases e⟩
theorem zE_inj {o p : Option Nat} (h : ∀ k, o = some k → k < 2 ^ 31) (h' : ∀ k, p = some k → k < 2 ^ 31) : zE o = zE p ↔ o = p := by
  cases o with
  | none =>
    cases p with
    | none => exact ⟨fun _ => rfl, fun _ => rfl⟩
    | some j => exact ⟨fun e => absurd e (zN_ne' (h' j rfl)), fun e => by cases e⟩
  | some k =>
    cases p with
    | none => exact ⟨fun e => absurd e (zN_ne (h k rfl)), fun e => by cases e⟩
    | some j => exact ⟨fun e => by rw [(nI_eq (h k rfl) (h' j rfl)).mp e], fun e => by rw [e]⟩
/-- an int read as a place or nothing -/
def zD (n : Nat) (x : Int32) : Prop := ∃ o : Option Nat, x = zE o ∧ ∀ k, o = some k → k < n
theorem za_up_at {M : za_M} {c i : Nat} {x : Int32} {c' i' : Nat} : za_up M c i x c' i' = if c' = c then (if i' = i then x else M c i') else M c' i' := by
  unfold za_up za_row upd
  by_cases h : c' = c
  · rw [if_pos h, if_pos h]
  · rw [if_neg h, if_neg h]
theorem za_up_same {M : za_M} {c i : Nat} {x : Int32} : za_up M c i x c i = x := by rw [za_up_at, if_pos rfl, if_pos rfl]
theorem za_up_oc {M : za_M} {c i : Nat} {x : Int32} {c' i' : Nat} (h : c' ≠ c) : za_up M c i x c' i' = M c' i' := by rw [za_up_at, if_neg h]
theorem za_up_oi {M : za_M} {c i : Nat} {x : Int32} {c' i' : Nat} (h : i' ≠ i) : za_up M c i x c' i' = M c' i' := by
  rw [za_up_at]
  by_cases e : c' = c
  · rw [if_pos e, if_neg h, e]
  · rw [if_neg e]
theorem za_in_of {L a n : Nat} {z : Bool} {k : Nat} (h : za_ln L a z = some n) (hk : k < n) (hn : n < 2 ^ 31) : za_in L a z (nI k) := ⟨n, h, vp_in_nI hk hn⟩
theorem za_in_x {L a n : Nat} {z : Bool} {x : Int32} (h : za_ln L a z = some n) (hx : vp_in x n) : za_in L a z x := ⟨n, h, hx⟩
theorem za_Hk {L h : Nat} (hH : za_H h) : za_ln L (h + 1) false = some 24 ∧ za_ln L (h + 2) false = some 48 ∧ za_ln L (h + 3) false = some 8 ∧ za_ln L (h + 4) false = some 24 ∧ za_ln L (h + 5) true = some 24 ∧ h + 5 < 42 ∧ h + 5 < 26 ∧ 6 ≤ h := by
  rcases hH with rfl | rfl | rfl <;> exact ⟨rfl, rfl, rfl, rfl, rfl, by decide, by decide, by decide⟩
theorem nI_m1 (n : Nat) : nI (n + 1) - nI 1 = nI n := by
  have h := pk_sub (a := n + 1) (b := 1) (by omega)
  rw [h]
  congr 1
