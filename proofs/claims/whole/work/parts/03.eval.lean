/-! the evaluator: one instruction, then a run with fuel; 'zT' is: from here the method returns, and Q holds of its answer and the memory then -/
abbrev za_O : Type := (Nat × List Value × List Value × za_M) ⊕ ((Nat × List Value × List Value) ⊕ Int32)
def za_nx (pc : Nat) (ls st : List Value) (M : za_M) : Option za_O := some (.inl (pc, ls, st, M))
def za_jp (c : Jvm.ClassFile.Cond) (x y : Int32) (t f : Nat) : Nat := match c with
  | .eq => if x = y then t else f
  | .ne => if x = y then f else t
  | .lt => if x < y then t else f
  | .ge => if y ≤ x then t else f
  | .gt => if y < x then t else f
  | .le => if x ≤ y then t else f
def za_tg (pc : Nat) (off : Int) : Option Nat := if 0 ≤ (pc : Int) + off then some ((pc : Int) + off).toNat else none
def za_ln (L a : Nat) (z : Bool) : Option Nat := match za_at L a with
  | some (.inr (w, n)) => if w = z then some n else none
  | _ => none
def za_fv (L : Nat) (M : za_M) (h ci k : Nat) : Option Value := match za_at L h with
  | some (.inl (cj, fs)) => if cj = ci then (match fs[k]? with
    | some (some q) => some (.ref q)
    | some none => some (.int (M h k))
    | none => none) else none
  | _ => none
def za_fi (L : Nat) (h ci k : Nat) : Bool := match za_at L h with
  | some (.inl (cj, fs)) => decide (cj = ci) && (match fs[k]? with
    | some none => true
    | _ => false)
  | _ => false
def za_isc (L h ci : Nat) : Bool := match za_at L h with
  | some (.inl (cj, _)) => decide (cj = ci)
  | _ => false
def za_pop : Nat → List Value → List Value → Option (List Value × List Value)
  | 0, st, acc => some (acc, st)
  | n + 1, v :: st, acc => za_pop n st (v :: acc)
  | _ + 1, [], _ => none
def za_rcv (L z : Nat) (as : List Value) : Bool := match as with
  | .ref h :: _ => decide (h < 42) && za_isc L h (za_own z)
  | _ => false
def za_call (L y z : Nat) (v : Bool) (st : List Value) : Option za_O := if za_ht z < za_ht y ∧ za_st z = !v then (match za_pop (za_na z) st [] with
  | some (as, st') => if st'.length ≤ 8 ∧ as.length ≤ za_mx z ∧ (v = true → za_rcv L z as = true) then some (.inr (.inl (z, as, st'))) else none
  | none => none) else none
def za_off (x : Int32) (dflt lo hi : Int) (offs : Array Int) : Option Int := if x.toInt < lo ∨ hi < x.toInt then some dflt else offs[(x.toInt - lo).toNat]?
def za_go (pc : Nat) (off : Option Int) (ls st : List Value) (M : za_M) : Option za_O := match off with
  | some o => (match za_tg pc o with
    | some t => za_nx t ls st M
    | none => none)
  | none => none
def za_cpyok (L a0 a : Nat) (sp dp n : Int32) : Prop := a0 < 42 ∧ a < 42 ∧ ¬ sp < 0 ∧ ¬ dp < 0 ∧ ¬ n < 0 ∧ sp.toNatClampNeg + n.toNatClampNeg ≤ (za_ln L a0 false).getD 0 ∧ dp.toNatClampNeg + n.toNatClampNeg ≤ (za_ln L a false).getD 0 ∧ (za_ln L a0 false).isSome = true ∧ (za_ln L a false).isSome = true
set_option maxHeartbeats 4000000 in
def za_do (L y pc : Nat) (i : Instr) (ls st : List Value) (M : za_M) : Option za_O := match i with
  | .aload k => (match ls[k]? with
    | some (.ref r) => za_nx (pc + 2) ls (.ref r :: st) M
    | _ => none)
  | .aload_n k => (match ls[k.val]? with
    | some (.ref r) => za_nx (pc + 1) ls (.ref r :: st) M
    | _ => none)
  | .iload k => (match ls[k]? with
    | some (.int r) => za_nx (pc + 2) ls (.int r :: st) M
    | _ => none)
  | .iload_n k => (match ls[k.val]? with
    | some (.int r) => za_nx (pc + 1) ls (.int r :: st) M
    | _ => none)
  | .istore k => (match st with
    | .int x :: st => if k < ls.length then za_nx (pc + 2) (ls.set k (.int x)) st M else none
    | _ => none)
  | .istore_n k => (match st with
    | .int x :: st => if k.val < ls.length then za_nx (pc + 1) (ls.set k.val (.int x)) st M else none
    | _ => none)
  | .astore k => (match st with
    | .ref x :: st => if k < ls.length then za_nx (pc + 2) (ls.set k (.ref x)) st M else none
    | _ => none)
  | .iinc k n => (match ls[k]? with
    | some (.int x) => za_nx (pc + 3) (ls.set k (.int (x + Int32.ofInt n))) st M
    | _ => none)
  | .iconst n => za_nx (pc + 1) ls (.int (Int32.ofInt n) :: st) M
  | .bipush n => za_nx (pc + 2) ls (.int (Int8.ofInt n).toInt32 :: st) M
  | .sipush n => za_nx (pc + 3) ls (.int (Int16.ofInt n).toInt32 :: st) M
  | .ldc ix => (match za_look za_cl (za_own y) ix with
    | some v => za_nx (pc + 2) ls (.int v :: st) M
    | none => none)
  | .iadd => (match st with
    | .int b :: .int a :: st => za_nx (pc + 1) ls (.int (a + b) :: st) M
    | _ => none)
  | .isub => (match st with
    | .int b :: .int a :: st => za_nx (pc + 1) ls (.int (a - b) :: st) M
    | _ => none)
  | .imul => (match st with
    | .int b :: .int a :: st => za_nx (pc + 1) ls (.int (a * b) :: st) M
    | _ => none)
  | .iand => (match st with
    | .int b :: .int a :: st => za_nx (pc + 1) ls (.int (a &&& b) :: st) M
    | _ => none)
  | .ior => (match st with
    | .int b :: .int a :: st => za_nx (pc + 1) ls (.int (a ||| b) :: st) M
    | _ => none)
  | .ishl => (match st with
    | .int b :: .int a :: st => za_nx (pc + 1) ls (.int (a <<< (b &&& 31)) :: st) M
    | _ => none)
  | .ishr => (match st with
    | .int b :: .int a :: st => za_nx (pc + 1) ls (.int (a >>> (b &&& 31)) :: st) M
    | _ => none)
  | .idiv => (match st with
    | .int b :: .int a :: st => if ¬ b = 0 then za_nx (pc + 1) ls (.int (a / b) :: st) M else none
    | _ => none)
  | .irem => (match st with
    | .int b :: .int a :: st => if ¬ b = 0 then za_nx (pc + 1) ls (.int (a - a / b * b) :: st) M else none
    | _ => none)
  | .dup => (match st with
    | .int a :: st => za_nx (pc + 1) ls (.int a :: .int a :: st) M
    | .ref a :: st => za_nx (pc + 1) ls (.ref a :: .ref a :: st) M
    | _ => none)
  | .pop => (match st with
    | .int _ :: st => za_nx (pc + 1) ls st M
    | _ => none)
  | .goto off => za_go pc (some off) ls st M
  | .ifCond c off => (match st with
    | .int x :: st => (match za_tg pc off with
      | some t => za_nx (za_jp c x 0 t (pc + 3)) ls st M
      | none => none)
    | _ => none)
  | .if_icmp c off => (match st with
    | .int b :: .int a :: st => (match za_tg pc off with
      | some t => za_nx (za_jp c a b t (pc + 3)) ls st M
      | none => none)
    | _ => none)
  | .tableswitch dflt lo hi offs => (match st with
    | .int x :: st => za_go pc (za_off x dflt lo hi offs) ls st M
    | _ => none)
  | .lookupswitch dflt ps => (match st with
    | .int x :: st => if (ps.toList.zip (ps.toList.drop 1)).all (fun q => decide (q.1.1 < q.2.1)) = true then za_go pc (some (Op.lookupswitch.offset ps.toList dflt x.toInt)) ls st M else none
    | _ => none)
  | .getfield ix => (match st with
    | .ref h :: st => (match za_look za_fl (za_own y) ix with
      | some (ci, k) => if h < 42 then (match za_fv L M h ci k with
        | some v => za_nx (pc + 3) ls (v :: st) M
        | none => none) else none
      | none => none)
    | _ => none)
  | .putfield ix => (match st with
    | .int x :: .ref h :: st => (match za_look za_fl (za_own y) ix with
      | some (ci, k) => if h < 42 ∧ za_fi L h ci k = true then za_nx (pc + 3) ls st (za_up M h k x) else none
      | none => none)
    | _ => none)
  | .getstatic ix => if za_own y = 1 ∧ ix = 35 then za_nx (pc + 3) ls (.ref 101 :: st) M else none
  | .iaload => (match st with
    | .int i :: .ref a :: st => (match za_ln L a false with
      | some n => if ¬ (i < 0 ∨ n ≤ i.toNatClampNeg) then za_nx (pc + 1) ls (.int (M a i.toNatClampNeg) :: st) M else none
      | none => none)
    | _ => none)
  | .baload => (match st with
    | .int i :: .ref a :: st => (match za_ln L a true with
      | some n => if ¬ (i < 0 ∨ n ≤ i.toNatClampNeg) then za_nx (pc + 1) ls (.int (M a i.toNatClampNeg) :: st) M else none
      | none => none)
    | _ => none)
  | .iastore => (match st with
    | .int x :: .int i :: .ref a :: st => (match za_ln L a false with
      | some n => if ¬ (i < 0 ∨ n ≤ i.toNatClampNeg) ∧ a < 42 then za_nx (pc + 1) ls st (za_up M a i.toNatClampNeg x) else none
      | none => none)
    | _ => none)
  | .bastore => (match st with
    | .int x :: .int i :: .ref a :: st => (match za_ln L a true with
      | some n => if ¬ (i < 0 ∨ n ≤ i.toNatClampNeg) ∧ a < 42 ∧ (x = 0 ∨ x = 1) then za_nx (pc + 1) ls st (za_up M a i.toNatClampNeg x) else none
      | none => none)
    | _ => none)
  | .arraylength => (match st with
    | .ref a :: st => (match za_ln L a false with
      | some n => za_nx (pc + 1) ls (.int (Int32.ofNat n) :: st) M
      | none => none)
    | _ => none)
  | .invokevirtual ix => (match za_look za_ml (za_own y) ix with
    | some z => za_call L y z true st
    | none => none)
  | .invokestatic ix => if za_own y = 0 ∧ ix = 37 then (match st with
      | [.int n, .int dp, .ref a, .int sp, .ref a0] => if ¬ sp < 0 ∧ ¬ dp < 0 ∧ ¬ n < 0 ∧ a0 < 42 ∧ a < 42 ∧ 0 < za_ht y then (match za_ln L a0 false, za_ln L a false with
        | some n0, some n1 => if sp.toNatClampNeg + n.toNatClampNeg ≤ n0 ∧ dp.toNatClampNeg + n.toNatClampNeg ≤ n1 then za_nx (pc + 3) ls [] (za_row M a (va_cpy (M a0) (M a) sp.toNatClampNeg dp.toNatClampNeg n.toNatClampNeg)) else none
        | _, _ => none) else none
      | _ => none) else (match za_look za_ml (za_own y) ix with
    | some z => za_call L y z false st
    | none => (match za_look za_nl (za_own y) ix with
      | some z => za_call L y z false st
      | none => none))
  | .ireturn => (match st with
    | [.int x] => if za_rt y = 1 ∨ (za_rt y = 2 ∧ (x = 0 ∨ x = 1)) then some (.inr (.inr x)) else none
    | _ => none)
  | .return_ => (match st with
    | [] => if za_rt y = 0 then some (.inr (.inr 0)) else none
    | _ => none)
  | _ => none
def za_step (L y pc : Nat) (ls st : List Value) (M : za_M) : Option za_O := match za_find (za_tab y) pc with
  | some i => za_do L y pc i ls st M
  | none => none
def za_ent (z : Nat) (as : List Value) : List Value := as ++ List.replicate (za_mx z - as.length) .null
def za_ev (L : Nat) : Nat → Nat → Nat → List Value → List Value → za_M → Option (Int32 × za_M)
  | 0, _, _, _, _, _ => none
  | n + 1, y, pc, ls, st, M => match za_step L y pc ls st M with
    | none => none
    | some (.inl (pc', ls', st', M')) => za_ev L n y pc' ls' st' M'
    | some (.inr (.inl (z, as, st'))) => (match za_ev L n z 0 (za_ent z as) [] M with
      | none => none
      | some (r, M') => za_ev L n y (pc + 3) ls (if za_rt z = 0 then st' else .int r :: st') M')
    | some (.inr (.inr r)) => some (r, M)
def zT (L y pc : Nat) (ls st : List Value) (M : za_M) (Q : Int32 → za_M → Prop) : Prop := ∃ (n : Nat) (r : Int32) (M' : za_M), za_ev L n y pc ls st M = some (r, M') ∧ Q r M'
theorem za_ev_succ (L : Nat) : ∀ (n y pc : Nat) (ls st : List Value) (M : za_M) (q : Int32 × za_M), za_ev L n y pc ls st M = some q → za_ev L (n + 1) y pc ls st M = some q := by
  intro n
  induction n with
  | zero => intro y pc ls st M q h; exact absurd h (by simp [za_ev])
  | succ n ih =>
    intro y pc ls st M q h
    rw [za_ev] at h ⊢
    cases hs : za_step L y pc ls st M with
    | none => rw [hs] at h; exact absurd h (by simp)
    | some o =>
      rw [hs] at h
      rcases o with ⟨pc', ls', st', M'⟩ | ⟨z, as, st'⟩ | r
      · exact ih _ _ _ _ _ _ h
      · dsimp only at h ⊢
        cases hc : za_ev L n z 0 (za_ent z as) [] M with
        | none => rw [hc] at h; exact absurd h (by simp)
        | some p =>
          rw [hc] at h
          rw [ih _ _ _ _ _ _ hc]
          exact ih _ _ _ _ _ _ h
      · exact h
theorem za_ev_le (L : Nat) {n k : Nat} (hk : n ≤ k) {y pc : Nat} {ls st : List Value} {M : za_M} {q : Int32 × za_M} (h : za_ev L n y pc ls st M = some q) : za_ev L k y pc ls st M = some q := by
  induction hk with
  | refl => exact h
  | step _ ih => exact za_ev_succ L _ _ _ _ _ _ _ ih
theorem za_ev_det (L : Nat) {n k : Nat} {y pc : Nat} {ls st : List Value} {M : za_M} {q q' : Int32 × za_M} (h : za_ev L n y pc ls st M = some q) (h' : za_ev L k y pc ls st M = some q') : q = q' := by
  have a := za_ev_le L (Nat.le_max_left n k) h
  have b := za_ev_le L (Nat.le_max_right n k) h'
  exact Option.some.inj (a.symm.trans b)
theorem zT_nx {L y pc : Nat} {ls st : List Value} {M : za_M} {Q : Int32 → za_M → Prop} {pc' : Nat} {ls' st' : List Value} {M' : za_M} (h : za_step L y pc ls st M = some (.inl (pc', ls', st', M'))) : zT L y pc ls st M Q ↔ zT L y pc' ls' st' M' Q := by
  constructor
  · rintro ⟨n, r, N, he, hq⟩
    cases n with
    | zero => exact absurd he (by simp [za_ev])
    | succ n => rw [za_ev, h] at he; exact ⟨n, r, N, he, hq⟩
  · rintro ⟨n, r, N, he, hq⟩
    exact ⟨n + 1, r, N, by rw [za_ev, h]; exact he, hq⟩
theorem zT_rt {L y pc : Nat} {ls st : List Value} {M : za_M} {Q : Int32 → za_M → Prop} {r : Int32} (h : za_step L y pc ls st M = some (.inr (.inr r))) : zT L y pc ls st M Q ↔ Q r M := by
  constructor
  · rintro ⟨n, r', N, he, hq⟩
    cases n with
    | zero => exact absurd he (by simp [za_ev])
    | succ n =>
      rw [za_ev, h] at he
      cases he
      exact hq
  · intro hq
    exact ⟨1, r, M, by rw [za_ev, h], hq⟩
theorem zT_cl {L y pc : Nat} {ls st : List Value} {M : za_M} {Q : Int32 → za_M → Prop} {z : Nat} {as st' : List Value} (h : za_step L y pc ls st M = some (.inr (.inl (z, as, st')))) : zT L y pc ls st M Q ↔ zT L z 0 (za_ent z as) [] M (fun r M1 => zT L y (pc + 3) ls (if za_rt z = 0 then st' else .int r :: st') M1 Q) := by
  constructor
  · rintro ⟨n, r, N, he, hq⟩
    cases n with
    | zero => exact absurd he (by simp [za_ev])
    | succ n =>
      rw [za_ev, h] at he
      dsimp only at he
      cases hc : za_ev L n z 0 (za_ent z as) [] M with
      | none => rw [hc] at he; exact absurd he (by simp)
      | some p =>
        rw [hc] at he
        exact ⟨n, p.1, p.2, hc, n, r, N, he, hq⟩
  · rintro ⟨n, r, N, he, k, r2, N2, he2, hq⟩
    refine ⟨max n k + 1, r2, N2, ?_, hq⟩
    rw [za_ev, h]
    dsimp only
    rw [za_ev_le L (Nat.le_max_left n k) he]
    exact za_ev_le L (Nat.le_max_right n k) he2
theorem zT_no {L y pc : Nat} {ls st : List Value} {M : za_M} {Q : Int32 → za_M → Prop} (h : za_step L y pc ls st M = none) : ¬ zT L y pc ls st M Q := by
  rintro ⟨n, r, N, he, hq⟩
  cases n with
  | zero => exact absurd he (by simp [za_ev])
  | succ n => rw [za_ev, h] at he; exact absurd he (by simp)
theorem zT_mono {L y pc : Nat} {ls st : List Value} {M : za_M} {Q Q' : Int32 → za_M → Prop} (h : zT L y pc ls st M Q) (hq : ∀ r M', Q r M' → Q' r M') : zT L y pc ls st M Q' := by
  obtain ⟨n, r, N, he, hQ⟩ := h
  exact ⟨n, r, N, he, hq r N hQ⟩
/-- a method whose end is known: what is asked of it holds just if it holds of that end -/
theorem zT_eq {L y pc : Nat} {ls st : List Value} {M : za_M} {r0 : Int32} {M0 : za_M} (h : zT L y pc ls st M (fun r M' => r = r0 ∧ M' = M0)) {Q : Int32 → za_M → Prop} : zT L y pc ls st M Q ↔ Q r0 M0 := by
  obtain ⟨n, r, N, he, rfl, rfl⟩ := h
  constructor
  · rintro ⟨k, r', N', he', hq⟩
    cases za_ev_det L he he'
    exact hq
  · intro hq
    exact ⟨n, r, N, he, hq⟩
