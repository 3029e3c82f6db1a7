/-! the memory at the law's loop -/
def zM0 (xs ks : Nat → Int32) : za_M := fun c => if c = 100 then xs else if c = 101 then ks else if c = 9 ∨ c = 17 ∨ c = 23 ∨ c = 29 then zFu 8 else if c = 1 then (fun i => if i = 6 then zN else 0) else if c = 26 then (fun i => if i = 10 then zN else 0) else fun _ => 0
set_option maxRecDepth 100000 in
theorem zM0_W (cI cZ : ClassId) (h : Nat) (xs ks : Nat → Int32) : zw3 cI cZ h ++ zw4 cI cZ (h + 26) = za_W cI cZ h (zM0 xs ks) := rfl
theorem zM0_J {xs ks : Nat → Int32} (hk : ∀ j k, zKd[j]? = some k → ks j = nI k) : zJ (zM0 xs ks) 0 (fun _ => (0, 0, 0, 0)) (0, fun _ => 0, fun _ => none, fun _ => none) 0 none 0 := by
  have hv : ∀ c, c = 9 ∨ c = 29 → ∀ v, v < 8 → zM0 xs ks c v = zN := by
    intro c hc v hv
    have e : zM0 xs ks c = zFu 8 := by rcases hc with rfl | rfl <;> rfl
    rw [e]
    exact if_pos hv
  refine ⟨⟨⟨rfl, fun i hi => absurd hi (Nat.not_lt_zero i)⟩, ⟨rfl, fun i hi => absurd hi (Nat.not_lt_zero i)⟩, Nat.zero_le _, fun i hi => absurd hi (Nat.not_lt_zero i)⟩, ⟨⟨rfl, fun i hi => absurd hi (Nat.not_lt_zero i), fun i hi => absurd hi (Nat.not_lt_zero i), hv 9 (Or.inl rfl)⟩, ⟨rfl, fun i hi => absurd hi (Nat.not_lt_zero i), fun i hi => absurd hi (Nat.not_lt_zero i), hv 29 (Or.inr rfl)⟩, ⟨Nat.zero_le _, fun i hi => absurd hi (Nat.not_lt_zero i), fun v _ k hk => by cases hk⟩⟩, ⟨rfl, rfl⟩, ⟨rfl, rfl⟩, ⟨rfl, rfl⟩, hk⟩
/-- a static row of ints: how long it is, exactly -/
theorem zk_size {args : Array Value} {s : State} {tm : Term} {N : Nat} (hN : N < 2 ^ 31) (hlen : (Term.length tm).eval args s none [] s = some (.int (Int32.ofNat N))) : ∃ (t : Nat) (cell : Cell), tm.eval args s none [] s = some (.ref t) ∧ s.heap[t]? = some cell ∧ cell.slots.size = N := by
  obtain ⟨t, cell, ht, hat, hv⟩ := Term.length_spec hlen
  have hsz : cell.slots.size < 2 ^ 31 := by
    simp only [Term.eval, ht, hat, Option.bind_eq_bind, Option.bind_some] at hlen
    by_cases hlt : cell.slots.size < 2147483648
    · exact hlt
    · simp [hlt] at hlen
  obtain ⟨hcell, -, -, -⟩ := State.arrayAt?_spec hat
  refine ⟨t, cell, ht, hcell, ?_⟩
  have h1 : Int32.ofNat N = Int32.ofNat cell.slots.size := Value.int.inj hv
  have h2 := congrArg Int32.toNatClampNeg h1
  rw [Int32.toNatClampNeg_ofNat_of_lt hN, Int32.toNatClampNeg_ofNat_of_lt hsz] at h2
  exact h2.symm
theorem zk_X {args : Array Value} {s : State} {tm : Term} {N t : Nat} {f : Nat → Int32} {A : Nat → Prop} (hN : N < 2 ^ 31) (hlen : (Term.length tm).eval args s none [] s = some (.int (Int32.ofNat N))) (ht : tm.eval args s none [] s = some (.ref t)) (hT : va_T .int t N (fun j => .int (f j)) A s s.heap) : va_X t N f s s.heap := by
  obtain ⟨t', cell', ht', hc', hsz⟩ := zk_size hN hlen
  cases ht.symm.trans ht'
  obtain ⟨cell, h1, h2, h3, -, -, h6, -⟩ := hT
  cases h1.symm.trans hc'
  exact ⟨_, h1, h2, h3, hsz, h6⟩
