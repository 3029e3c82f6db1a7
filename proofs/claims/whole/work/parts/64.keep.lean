/-! no step writes into the script -/
theorem za_nx_M {a pc' : Nat} {b c ls' st' : List Value} {N M' : za_M} (h : za_nx a b c N = some (.inl (pc', ls', st', M'))) : N = M' := by
  unfold za_nx at h
  injection h with h
  injection h with h
  injection h with h1 h
  injection h with h2 h
  injection h with h3 h
theorem za_go_M {pc pc' : Nat} {o : Option Int} {b c ls' st' : List Value} {N M' : za_M} (h : za_go pc o b c N = some (.inl (pc', ls', st', M'))) : N = M' := by
  unfold za_go at h
  split at h
  · split at h
    · exact za_nx_M h
    · cases h
  · cases h
theorem za_call_M {L y z : Nat} {v : Bool} {st : List Value} {q : Nat × List Value × List Value × za_M} (h : za_call L y z v st = some (.inl q)) : False := by
  unfold za_call at h
  split at h
  · split at h
    · split at h
      · cases h
      · cases h
    · cases h
  · cases h
theorem za_100 (a : Nat) (h : a < 42) : (100 : Nat) ≠ a := by omega
set_option maxHeartbeats 4000000 in
theorem za_do_M {L y pc : Nat} {i : Instr} {ls st : List Value} {M : za_M} {pc' : Nat} {ls' st' : List Value} {M' : za_M} (h : za_do L y pc i ls st M = some (.inl (pc', ls', st', M'))) : M' 100 = M 100 := by
  unfold za_do at h
  split at h
  all_goals (repeat' split at h)
  all_goals first
    | (exfalso; exact za_call_M h)
    | (cases h; done)
    | (rw [← za_nx_M h]; done)
    | (rw [← za_go_M h]; done)
    | (rw [← za_nx_M h]; rename_i q; exact za_up_ne (za_100 _ q.1))
    | (rw [← za_nx_M h]; rename_i q; exact za_up_ne (za_100 _ q.2))
    | (rw [← za_nx_M h]; rename_i q; exact za_up_ne (za_100 _ q.2.1))
    | (rw [← za_nx_M h]; rename_i q _ _ _ _ _ _ _; exact za_row_ne (za_100 _ q.2.2.2.2.1))
    | (rw [← za_nx_M h]; rename_i q _ _ _ _ _ _; exact za_row_ne (za_100 _ q.2.2.2.2.1))
    | (rw [← za_nx_M h]; rename_i q _ _ _ _ _; exact za_row_ne (za_100 _ q.2.2.2.2.1))
theorem za_ev_M {L : Nat} : ∀ (n y pc : Nat) (ls st : List Value) (M : za_M) (r : Int32) (M' : za_M), za_ev L n y pc ls st M = some (r, M') → M' 100 = M 100 := by
  intro n
  induction n with
  | zero => intro y pc ls st M r M' h; exact absurd h (by simp [za_ev])
  | succ n ih =>
    intro y pc ls st M r M' h
    rw [za_ev] at h
    cases hs : za_step L y pc ls st M with
    | none => rw [hs] at h; exact absurd h (by simp)
    | some o =>
      rw [hs] at h
      rcases o with ⟨pc', ls', st', M1⟩ | ⟨z, as, st'⟩ | r1
      · have e := ih _ _ _ _ _ _ _ h
        unfold za_step at hs
        cases hf : za_find (za_tab y) pc with
        | none => rw [hf] at hs; cases hs
        | some i => rw [hf] at hs; rw [e]; exact za_do_M hs
      · dsimp only at h
        cases hc : za_ev L n z 0 (za_ent z as) [] M with
        | none => rw [hc] at h; exact absurd h (by simp)
        | some q =>
          rw [hc] at h
          obtain ⟨r2, M2⟩ := q
          rw [ih _ _ _ _ _ _ _ h, ih _ _ _ _ _ _ _ hc]
      · cases h; rfl
theorem zT_keep {L y pc : Nat} {ls st : List Value} {M : za_M} {Q : Int32 → za_M → Prop} (h : zT L y pc ls st M Q) : zT L y pc ls st M (fun r M' => Q r M' ∧ M' 100 = M 100) := by
  obtain ⟨n, r, N, he, hq⟩ := h
  exact ⟨n, r, N, he, hq, za_ev_M n _ _ _ _ _ _ _ he⟩
