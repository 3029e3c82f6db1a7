/-! the evaluator is sound: what it answers the machine answers -/
def za_rm (z : Nat) : Room := { frames := za_ht z, cells := 0, slots := 0, locals := 31 * za_ht z }
def za_cw (z : Nat) : List Cond := Cond.code (za_y z) (za_by z) (za_mx z) (za_ret z) :: za_tb
theorem za_cw_good {z : Nat} (hz : z ∈ za_callable) : GoodIn za_tb (za_cw z) := by
  intro w hw
  have hm : w ∈ za_tb := by
    rcases List.mem_cons.mp hw with h | h
    · rw [h]; exact (za_ok_all z hz).1
    · exact h
  exact ⟨hm, good_of_word (List.mem_filter.mp hm).2⟩
theorem za_F_moved {D : va_G} {cI cZ : ClassId} {b bs bk L : Nat} {xs ks : Nat → Int32} {s U : State} {locs : List Loc} (h : za_F D cI cZ b bs bk L xs ks s) (hS : va_S (fun q => b ≤ q) s.heap U.heap locs) (hW : s.WarmedH U.vm) : za_F D cI cZ b bs bk L xs ks U := by
  obtain ⟨hK, hXs, hXk, hZ, hN, hbs, hbk⟩ := h
  refine ⟨va_K.moved hW.alike hK, va_X.moved hW.alike (hXs.kept ?_), va_X.moved hW.alike (hXk.kept ?_), va_Z.moved hW.alike (hZ.kept hS.2.1), fun q hq => va_Nw.warmM hW (hN q hq), hbs, hbk⟩
  · obtain ⟨scr, h8, -⟩ := hXs
    exact hS.2.1 bs (Array.getElem?_eq_some_iff.mp h8).1 (Nat.not_le.mpr hbs)
  · obtain ⟨scr, h8, -⟩ := hXk
    exact hS.2.1 bk (Array.getElem?_eq_some_iff.mp h8).1 (Nat.not_le.mpr hbk)
theorem za_F_call {D : va_G} {cI cZ : ClassId} {b bs bk L : Nat} {xs ks : Nat → Int32} {U : State} (g : JFrame) (mk : MethodId) (a : Array Value) (h : za_F D cI cZ b bs bk L xs ks U) : za_F D cI cZ b bs bk L xs ks (U.calling g mk a) := by
  obtain ⟨hK, hXs, hXk, hZ, hN, hbs, hbk⟩ := h
  exact ⟨va_K.moved (u := U) (U := U.calling g mk a) (Vm.Alike.refl U.vm) hK, va_X.moved (u := U) (U := U.calling g mk a) (Vm.Alike.refl U.vm) hXs, va_X.moved (u := U) (U := U.calling g mk a) (Vm.Alike.refl U.vm) hXk, va_Z.moved (u := U) (U := U.calling g mk a) (Vm.Alike.refl U.vm) hZ, fun q hq => va_Nw.same (u := U) (U := U.calling g mk a) rfl rfl (hN q hq), hbs, hbk⟩
/-- a method's start and end -/
def za_Pc (D : va_G) (cI cZ : ClassId) (b bs bk L : Nat) (xs ks : Nat → Int32) (as : List Value) (M : za_M) : Array Value → State → Prop := va_Pc (as.map (za_cv b bs bk)) (fun U => va_P D vwCl (za_W cI cZ b M) U.heap ∧ za_F D cI cZ b bs bk L xs ks U ∧ M 100 = xs ∧ M 101 = ks)
def za_Qb (D : va_G) (cI cZ : ClassId) (b : Nat) (xs ks : Nat → Int32) (M : za_M) : Unit → State → Prop := fun _ t => va_P D vwCl (za_W cI cZ b M) t.heap ∧ M 100 = xs ∧ M 101 = ks
def za_Qc (D : va_G) (cI cZ : ClassId) (b : Nat) (xs ks : Nat → Int32) (z : Nat) (r : Int32) (M : za_M) : Array Value → State → Outcome → State → Prop := if za_rt z = 0 then va_Qv (fun _ : Unit => True) (za_Qb D cI cZ b xs ks M) (fun q => b ≤ q) else va_Qi (fun r' (_ : Unit) => r' = r) (za_Qb D cI cZ b xs ks M) (fun q => b ≤ q)
theorem za_blind {D : va_G} {cI cZ : ClassId} {b bs bk L : Nat} {xs ks : Nat → Int32} {as : List Value} {M : za_M} : FrameBlind (za_Pc D cI cZ b bs bk L xs ks as M) := fun a U g mk h => ⟨h.1, h.2.1, za_F_call g mk a h.2.2.1, h.2.2.2⟩
def za_Ret (D : va_G) (cI cZ : ClassId) (b : Nat) (xs ks : Nat → Int32) (p : Program) (l : Launch) (e : Env) (s : State) (m : MethodId) (args : Array Value) (below : List Frame) (meth : Method) (c : Code) (R : Room) (cells slots : Nat) (Q : State → Prop) (y : Nat) (r : Int32) (M : za_M) : Prop := ∀ (pc : Nat) (H : Heap) (locs : List Loc) (lv : Array Slot), decode (za_by y) pc = .ok (if za_rt y = 0 then .return_ else .ireturn, 1) → (za_rt y = 1 ∨ (za_rt y = 2 ∧ (r = 0 ∨ r = 1)) ∨ za_rt y = 0) → va_P D vwCl (za_W cI cZ b M) H → va_S (fun q => b ≤ q) s.heap H locs → M 100 = xs → M 101 = ks → W p l e R s m args below meth c H locs cells slots Q (F0 m pc lv (if za_rt y = 0 then [] else [.int r]))
def za_Snd (l : Launch) (D : va_G) (cI cZ : ClassId) (b bs bk L : Nat) (xs ks : Nat → Int32) (n : Nat) : Prop := ∀ (y pc : Nat) (ls st : List Value) (M : za_M) (r : Int32) (M' : za_M), za_ev L n y pc ls st M = some (r, M') → (∀ v ∈ st, v.category = 1) → M 100 = xs → M 101 = ks → ∀ (p : Program) (e : Env) (s : State) (m : MethodId) (args : Array Value) (below : List Frame) (meth : Method) (c : Code) (R : Room) (cells slots : Nat) (Q : State → Prop) (H : Heap) (locs : List Loc) (lv : Array Slot), za_Fix D cI cZ b bs bk L xs ks p s m args c y R cells slots → va_P D vwCl (za_W cI cZ b M) H → va_S (fun q => b ≤ q) s.heap H locs → za_lv b bs bk lv (za_mx y) ls → za_Ret D cI cZ b xs ks p l e s m args below meth c R cells slots Q y r M' → W p l e R s m args below meth c H locs cells slots Q (F0 m pc lv (st.map (za_cv b bs bk)))
section ZM
variable {l : Launch} {D : va_G} {cI cZ : ClassId} {b bs bk L : Nat} {xs ks : Nat → Int32}
set_option maxHeartbeats 4000000 in
theorem za_met {n z : Nat} {as : List Value} {M : za_M} {r : Int32} {M' : za_M} (hs : za_Snd l D cI cZ b bs bk L xs ks n) (hz : z ∈ za_callable) (ha : as.length ≤ za_mx z) (hcat : ∀ v ∈ as, v.category = 1) (he : za_ev L n z 0 (za_ent z as) [] M = some (r, M')) : Met l (za_y z) (za_cw z) (za_rm z) (za_Pc D cI cZ b bs bk L xs ks as M) (za_Qc D cI cZ b xs ks z r M') 0 0 (fun q => b ≤ q) := by
  obtain ⟨hcode, hplain, hcls, -⟩ := za_ok_all z hz
  refine Met.ofW (cc := za_by z) (maxL := za_mx z) (ret := za_ret z) hplain rfl ?_
  intro p e s m args below meth c s₁ B hml hv
  obtain ⟨rfl, hP, hF, h100, h101⟩ := hv
  have hx := B.exec
  have hb := B.bytes
  have hr := B.returns
  have hts := atoms_spec (ws := za_cw z) B.pre
  have hown : s.vm.findClass (za_y z).cls = some m.cls := findClass_of_methodNamed B.named
  have hlocks := B.notSynchronized
  rw [hcls] at hown
  rw [lg_entry_eq]
  refine hs z 0 (za_ent z as) [] M r M' he (fun _ h => absurd h List.not_mem_nil) h100 h101 p e s m _ below meth c _ 0 0 _ s.heap [] _ ⟨hx, hb, hml, hown, fun w h => hts w (List.mem_cons_of_mem _ h), hF, ⟨Nat.le_refl _, Nat.le_refl _⟩, Nat.le_refl _, Nat.le_refl _⟩ hP va_S.rf (za_lv_entry hcat ha) ?_
  intro pc H locs lv hdg hrt hP1 hS1 k100 k101
  have hq : ∀ t : State, t.heap = H → s.WarmedH t.vm → va_P D vwCl (za_W cI cZ b M') t.heap ∧ M' 100 = xs ∧ M' 101 = ks := fun t ht _ => ⟨by rw [ht]; exact hP1, k100, k101⟩
  by_cases h0 : za_rt z = 0
  · rw [if_pos h0] at hdg ⊢
    have hr0 : meth.sig.returnType = none := by rw [hr]; unfold za_ret; rw [h0]; rfl
    unfold za_Qc
    rw [if_pos h0]
    exact W.vret hx hb hr0 (fun t ht hW => ⟨⟨(), rfl, trivial, hq t ht hW⟩, hS1.F ht⟩) (fun q hq => hS1.2.2 q hq) hdg hlocks
  · rw [if_neg h0] at hdg ⊢
    unfold za_Qc
    rw [if_neg h0]
    rcases hrt with h1 | ⟨h2, hr01⟩ | h3
    · have hr1 : meth.sig.returnType = some .int := by rw [hr]; unfold za_ret; rw [h1]; rfl
      exact W.iret hx hb hr1 (fun t ht hW => ⟨⟨r, (), rfl, rfl, hq t ht hW⟩, hS1.F ht⟩) (fun q hq => hS1.2.2 q hq) hdg hlocks
    · have hr2 : meth.sig.returnType = some .boolean := by rw [hr]; unfold za_ret; rw [h2]; rfl
      exact W.zret hx hb hr2 (by rcases hr01 with rfl | rfl <;> rfl) (fun t ht hW => ⟨⟨r, (), rfl, rfl, hq t ht hW⟩, hS1.F ht⟩) (fun q hq => hS1.2.2 q hq) hdg hlocks
    · exact absurd h3 h0
end ZM
theorem za_pop_ok : ∀ (n : Nat) (st acc as st' : List Value), za_pop n st acc = some (as, st') → ∃ ps : List Value, st = ps ++ st' ∧ ps.length = n ∧ as = ps.reverse ++ acc
  | 0, st, acc, as, st', h => by
    cases h
    exact ⟨[], rfl, rfl, rfl⟩
  | n + 1, [], acc, as, st', h => by cases h
  | n + 1, v :: st, acc, as, st', h => by
    obtain ⟨ps, h1, h2, h3⟩ := za_pop_ok n st (v :: acc) as st' h
    exact ⟨v :: ps, by rw [h1]; rfl, by simp [h2], by rw [h3]; simp⟩
theorem za_call_ok {L y z z' : Nat} {v : Bool} {st as st' : List Value} (h : za_call L y z v st = some (.inr (.inl (z', as, st')))) : z' = z ∧ za_ht z < za_ht y ∧ za_st z = !v ∧ st = as.reverse ++ st' ∧ as.length = za_na z ∧ st'.length ≤ 8 ∧ as.length ≤ za_mx z ∧ (v = true → za_rcv L z as = true) := by
  unfold za_call at h
  split at h
  · rename_i h1
    split at h
    · rename_i a1 s1 hp
      split at h
      · rename_i h2
        cases h
        obtain ⟨ps, e1, e2, e3⟩ := za_pop_ok _ _ _ _ _ hp
        rw [List.append_nil] at e3
        refine ⟨rfl, h1.1, h1.2, by rw [e3, List.reverse_reverse]; exact e1, by rw [e3, List.length_reverse]; exact e2, h2.1, h2.2.1, h2.2.2⟩
      · cases h
    · cases h
  · cases h
theorem za_sum {st : List Value} (h : ∀ v ∈ st, v.category = 1) : (st.map fun v => v.category).sum = st.length := by
  induction st with
  | nil => rfl
  | cons v st ih =>
    have h1 := h v List.mem_cons_self
    have h2 := ih (fun w hw => h w (List.mem_cons_of_mem _ hw))
    simp only [List.map_cons, List.sum_cons, List.length_cons]
    omega
section ZC
variable {l : Launch} {D : va_G} {cI cZ : ClassId} {b bs bk L : Nat} {xs ks : Nat → Int32} {p : Program} {e : Env} {s : State} {m : MethodId} {args : Array Value} {below : List Frame} {meth : Method} {c : Code} {R : Room} {cells slots : Nat} {Q : State → Prop} {H : Heap} {locs : List Loc} {lv : Array Slot} {y : Nat} {pc : Nat} {M : za_M}
/-- behind a call: the answer on the stack, the world as the callee left it -/
theorem za_after {z mk : Nat} {rest st0 : List Value} {r1 : Int32} {M1 : za_M} {a : Array Value} (hr : va_Run p l e R s m args below meth c H locs cells slots 0 0 (F0 m pc lv st0) rest (za_Qc D cI cZ b xs ks z r1 M1 a) (fun q => b ≤ q)) (hS : va_S (fun q => b ≤ q) s.heap H locs)
    (kk : ∀ (H1 : Heap) (locs1 : List Loc), va_P D vwCl (za_W cI cZ b M1) H1 → va_S (fun q => b ≤ q) s.heap H1 locs1 → M1 100 = xs → M1 101 = ks → W p l e R s m args below meth c H1 locs1 cells slots Q (F0 m (pc + 3) lv (if za_rt z = 0 then rest else .int r1 :: rest))) : W p l e R s m args below meth c H locs cells slots Q (F0 m pc lv st0) := by
  unfold za_Qc at hr
  by_cases h0 : za_rt z = 0
  · rw [if_pos h0] at hr
    refine va_callv hr hS (fun _ _ h => h) (fun _ h => h) (fun u t H1 locs1 ht hvm hw hB hz1 hk1 hS1 => ?_)
    obtain ⟨b1, b2, b3⟩ := hB
    rw [ht] at b1
    have q := kk H1 locs1 b1 hS1 b2 b3
    rw [if_pos h0] at q
    exact q
  · rw [if_neg h0] at hr
    refine va_calli hr hS (fun _ _ h => h) (fun _ h => h) (fun r' u t H1 locs1 ht hvm hw hB hz1 hk1 hS1 => ?_)
    obtain ⟨b1, b2, b3⟩ := hB
    rw [ht] at b1
    have q := kk H1 locs1 b1 hS1 b2 b3
    rw [if_neg h0] at q
    have hw : r' = r1 := hw
    subst hw
    exact q
end ZC
theorem za_go_inr {pc : Nat} {off : Option Int} {ls st : List Value} {M : za_M} {o : (Nat × List Value × List Value) ⊕ Int32} : ¬ za_go pc off ls st M = some (.inr o) := by
  intro h
  unfold za_go at h
  split at h
  · split at h
    · cases h
    · cases h
  · cases h
set_option maxHeartbeats 4000000 in
set_option maxRecDepth 100000 in
theorem za_do_call {L y pc z : Nat} {i : Instr} {ls st as st1 : List Value} {M : za_M} (hd : za_do L y pc i ls st M = some (.inr (.inl (z, as, st1)))) : (∃ ix z', i = .invokevirtual ix ∧ za_look za_ml (za_own y) ix = some z' ∧ za_call L y z' true st = some (.inr (.inl (z, as, st1)))) ∨ (∃ ix z', i = .invokestatic ix ∧ za_look za_ml (za_own y) ix = some z' ∧ za_call L y z' false st = some (.inr (.inl (z, as, st1)))) ∨ (∃ ix z', i = .invokestatic ix ∧ za_look za_nl (za_own y) ix = some z' ∧ za_call L y z' false st = some (.inr (.inl (z, as, st1)))) := by
  unfold za_do at hd
  split at hd
  all_goals (repeat' split at hd)
  all_goals first
    | (cases hd; done)
    | exact absurd hd za_go_inr
    | exact Or.inl ⟨_, _, rfl, by assumption, hd⟩
    | exact Or.inr (Or.inl ⟨_, _, rfl, by assumption, hd⟩)
    | exact Or.inr (Or.inr ⟨_, _, rfl, by assumption, hd⟩)
theorem za_call_nr {L y z : Nat} {v : Bool} {st : List Value} {r : Int32} : ¬ za_call L y z v st = some (.inr (.inr r)) := by
  intro h
  unfold za_call at h
  split at h
  · split at h
    · split at h
      · cases h
      · cases h
    · cases h
  · cases h
set_option maxHeartbeats 4000000 in
set_option maxRecDepth 100000 in
theorem za_do_ret {L y pc : Nat} {i : Instr} {ls st : List Value} {M : za_M} {r : Int32} (hd : za_do L y pc i ls st M = some (.inr (.inr r))) : (i = .ireturn ∧ st = [.int r] ∧ (za_rt y = 1 ∨ (za_rt y = 2 ∧ (r = 0 ∨ r = 1)))) ∨ (i = .return_ ∧ st = [] ∧ za_rt y = 0) := by
  unfold za_do at hd
  split at hd
  all_goals (repeat' split at hd)
  all_goals first
    | exact absurd hd za_go_inr
    | exact absurd hd za_call_nr
    | (cases hd; exact Or.inl ⟨rfl, rfl, by assumption⟩)
    | (cases hd; exact Or.inr ⟨rfl, rfl, by assumption⟩)
    | (cases hd; done)
set_option maxHeartbeats 4000000 in
set_option maxRecDepth 100000 in
theorem za_sound (l : Launch) (D : va_G) (cI cZ : ClassId) (b bs bk L : Nat) (xs ks : Nat → Int32) : ∀ n : Nat, za_Snd l D cI cZ b bs bk L xs ks n := by
  intro n
  induction n with
  | zero => intro y pc ls st M r M' he; exact absurd he (by simp [za_ev])
  | succ n ih =>
    intro y pc ls st M r M' he hst h100 h101 p e s m args below meth c R cells slots Q H locs lv hfix hP hS hlv hret
    rw [za_ev] at he
    cases hf : za_find (za_tab y) pc with
    | none =>
      have hst0 : za_step L y pc ls st M = none := by simp [za_step, hf]
      rw [hst0] at he
      cases he
    | some i =>
      obtain ⟨kn, hdg, hk⟩ := za_dec hf
      have hst0 : za_step L y pc ls st M = za_do L y pc i ls st M := by simp [za_step, hf]
      rw [hst0] at he
      cases hd : za_do L y pc i ls st M with
      | none => rw [hd] at he; cases he
      | some o =>
        rw [hd] at he
        rcases o with ⟨pc1, ls1, st1, M1⟩ | ⟨z, as, st1⟩ | r1
        · dsimp only at he
          obtain ⟨c1, c2, c3, c4⟩ := za_nxt (l := l) (e := e) (below := below) (meth := meth) (Q := Q) hfix hst h100 h101 hP hS hlv hdg hk hd
          exact c4 (fun H1 locs1 lv1 hP1 hS1 hlv1 => ih y pc1 ls1 st1 M1 r M' he c1 c2 c3 p e s m args below meth c R cells slots Q H1 locs1 lv1 hfix hP1 hS1 hlv1 hret)
        · dsimp only at he
          cases hc : za_ev L n z 0 (za_ent z as) [] M with
          | none => rw [hc] at he; cases he
          | some q =>
            obtain ⟨r1, M1⟩ := q
            rw [hc] at he
            dsimp only at he
            have key : ∀ (v : Bool), za_call L y z v st = some (.inr (.inl (z, as, st1))) → z ∈ za_callable → (∀ w ∈ as, w.category = 1) ∧ (∀ w ∈ st1, w.category = 1) ∧ st.map (za_cv b bs bk) = (as.map (za_cv b bs bk)).reverse ++ st1.map (za_cv b bs bk) ∧ ((za_rm z).frames + 1 ≤ R.frames ∧ 8 + (za_mx z + 11) + (za_rm z).locals ≤ R.locals) ∧ ((st1.map (za_cv b bs bk)).map fun v => v.category).sum ≤ 8 ∧ Met l (za_y z) (za_cw z) (za_rm z) (za_Pc D cI cZ b bs bk L xs ks as M) (za_Qc D cI cZ b xs ks z r1 M1) 0 0 (fun q => b ≤ q) := by
              intro v hcl hz
              obtain ⟨-, k1, k2, k3, k4, k5, k6, k7⟩ := za_call_ok hcl
              have hca : ∀ w ∈ as, w.category = 1 := fun w hw => hst w (by rw [k3]; exact List.mem_append_left _ (List.mem_reverse.mpr hw))
              have hcs : ∀ w ∈ st1, w.category = 1 := fun w hw => hst w (by rw [k3]; exact List.mem_append_right _ hw)
              have hmx := (za_ok_all z hz).2.2.2.2.2.2.2.1
              obtain ⟨-, -, -, -, -, -, ⟨hRf, hRl⟩, -, -⟩ := hfix
              refine ⟨hca, hcs, by rw [k3, List.map_append, List.map_reverse], ⟨?_, ?_⟩, ?_, za_met ih hz k6 hca hc⟩
              · show za_ht z + 1 ≤ R.frames
                omega
              · show 8 + (za_mx z + 11) + 31 * za_ht z ≤ R.locals
                omega
              · rw [za_sum (fun w hw => by obtain ⟨w', hw', rfl⟩ := List.mem_map.mp hw; rw [za_cv_cat]; exact hcs w' hw'), List.length_map]
                exact k5
            have fin : ∀ (H1 : Heap) (locs1 : List Loc), (∀ w ∈ st1, w.category = 1) → va_P D vwCl (za_W cI cZ b M1) H1 → va_S (fun q => b ≤ q) s.heap H1 locs1 → M1 100 = xs → M1 101 = ks → W p l e R s m args below meth c H1 locs1 cells slots Q (F0 m (pc + 3) lv (if za_rt z = 0 then st1.map (za_cv b bs bk) else .int r1 :: st1.map (za_cv b bs bk))) := by
              intro H1 locs1 hcs hP1 hS1 k100 k101
              have hcs2 : ∀ w ∈ (if za_rt z = 0 then st1 else .int r1 :: st1), w.category = 1 := by
                by_cases h0 : za_rt z = 0
                · rw [if_pos h0]; exact hcs
                · rw [if_neg h0]; exact List.forall_mem_cons.mpr ⟨rfl, hcs⟩
              have q := ih y (pc + 3) ls (if za_rt z = 0 then st1 else .int r1 :: st1) M1 r M' he hcs2 k100 k101 p e s m args below meth c R cells slots Q H1 locs1 lv hfix hP1 hS1 hlv hret
              by_cases h0 : za_rt z = 0
              · rw [if_pos h0] at q ⊢; exact q
              · rw [if_neg h0] at q ⊢; exact q
            obtain ⟨hx, hb, hml, hown, hts, hF, hR, hRc, hRs⟩ := id hfix
            have hPU : ∀ U : State, U.heap = H → s.WarmedH U.vm → za_Pc D cI cZ b bs bk L xs ks as M (as.map (za_cv b bs bk)).toArray U := fun U hU hW => ⟨rfl, by rw [hU]; exact hP, za_F_moved hF (by rw [hU]; exact hS) hW, h100, h101⟩
            rcases za_do_call hd with ⟨ix, z', rfl, hlk, hcl⟩ | ⟨ix, z', rfl, hlk, hcl⟩ | ⟨ix, z', rfl, hlk, hcl⟩
            · obtain ⟨rfl, -, k2, k3, k4, k5, k6, k7⟩ := za_call_ok hcl
              have hmq := za_m_all _ (za_look_in hlk)
              obtain ⟨hz, hml2⟩ := hmq
              dsimp only at hz hml2
              obtain ⟨q1, q2, q3, q4, q5, hM⟩ := key true hcl hz
              obtain ⟨o1, o2, o3, o4, o5, o6, o7, o8, o9, o10, o11⟩ := za_ok_all z hz
              have hrc := k7 rfl
              have hz0 : za_st z = false := k2
              obtain ⟨i1, i2⟩ := o11 hz0
              rw [hz0] at o6
              cases as with
              | nil => cases hrc
              | cons v0 As =>
                cases v0 with
                | ref h =>
                  simp only [za_rcv, Bool.and_eq_true, decide_eq_true_eq] at hrc
                  obtain ⟨hlt, hisc⟩ := hrc
                  unfold za_isc at hisc
                  split at hisc
                  · rename_i cj fs hat
                    have hcj : cj = za_own z := of_decide_eq_true hisc
                    subst hcj
                    have hcell := hat
                    rw [za_at_lt hlt] at hcell
                    obtain ⟨hc5, -, -⟩ := za_obj hcell
                    obtain ⟨C, T, N, ty, hvw, -⟩ := za_clsin hc5
                    have hCn : za_cn (za_own z) = C := by
                      have : ∀ c, c < 5 → ∀ (C : String) (T : u_T) (N : Nat), vwCl[c]? = some (C, T, N) → za_cn c = C := by
                        intro c hc C T N h
                        match c, hc with
                        | 0, _ => cases h; rfl
                        | 1, _ => cases h; rfl
                        | 2, _ => cases h; rfl
                        | 3, _ => cases h; rfl
                        | 4, _ => cases h; rfl
                      exact this _ hc5 _ _ _ hvw
                    have hrcv := va_recv hF.1 hP hvw (za_W_get cI cZ b M hlt hat)
                    rw [← za_ad_lt (b := b) (bs := bs) (bk := bk) hlt] at hrcv
                    have hCW : CallW R s args (za_cn (za_own y)) C ix (za_y z) (za_by z) (za_mx z) (za_ret z) (za_cw z) (za_rm z) 0 0 (za_na z - 1) := by
                      refine ⟨callB_of (za_na z - 1) hts (za_cw_good hz) rfl rfl rfl (hts _ o9) (hts _ hml2) ⟨o4, o5, by rw [o6]; rfl⟩ q4, hts _ i1, ?_⟩
                      rw [← hCn]
                      exact hts _ i2
                    have hAl : (As.map (za_cv b bs bk)).length = za_na z - 1 := by
                      rw [List.length_map]
                      have h12 : As.length + 1 = za_na z := k4
                      omega
                    have hstk : st.map (za_cv b bs bk) = (As.map (za_cv b bs bk)).reverse ++ Value.ref (za_ad b bs bk h) :: st1.map (za_cv b bs bk) := by
                      rw [q3]
                      simp [za_cv]
                    have hrun := va_runV (cells := cells) (slots := slots) (locs := locs) (meth := meth) (below := below) (e := e) (g := F0 m pc lv (st.map (za_cv b bs bk))) (rest := st1.map (za_cv b bs bk)) (nL := za_mx y) (index := ix) (As := As.map (za_cv b bs bk)) (b := za_ad b bs bk h) (H := H) (cc := za_by y) (own := za_cn (za_own y)) (Ts := za_tb) ⟨hx, hb, hml, hown, hts⟩ hM hCW ⟨za_blind, hrcv, hPU⟩ rfl hAl hlv.1 hstk (lv_room q5) (za_w hdg hk rfl (by decide)) ⟨hRc, hRs⟩
                    exact za_after (z := z) (mk := 0) hrun hS (fun H1 locs1 a1 a2 a3 a4 => fin H1 locs1 q2 a1 a2 a3 a4)
                  · cases hisc
                | _ => cases hrc
            · obtain ⟨rfl, -, k2, k3, k4, k5, k6, k7⟩ := za_call_ok hcl
              have hmq := za_m_all _ (za_look_in hlk)
              obtain ⟨hz, hml2⟩ := hmq
              dsimp only at hz hml2
              obtain ⟨q1, q2, q3, q4, q5, hM⟩ := key false hcl hz
              obtain ⟨o1, o2, o3, o4, o5, o6, o7, o8, o9, o10, o11⟩ := za_ok_all z hz
              have hz0 : za_st z = true := k2
              rw [hz0] at o6
              have hCB : CallB R s args (za_cn (za_own y)) ix (za_y z) (za_by z) (za_mx z) (za_ret z) (za_cw z) (za_rm z) 0 0 (za_na z) ∧ (Cond.static (za_y z)).before args s = true :=
                ⟨callB_of (za_na z) hts (za_cw_good hz) rfl rfl rfl (hts _ o9) (hts _ hml2) ⟨o4, o5, by rw [o6]; rfl⟩ q4, hts _ (o10 hz0)⟩
              have hrun := va_runS (cells := cells) (slots := slots) (locs := locs) (meth := meth) (below := below) (e := e) (g := F0 m pc lv (st.map (za_cv b bs bk))) (rest := st1.map (za_cv b bs bk)) (nL := za_mx y) (index := ix) (As := as.map (za_cv b bs bk)) (H := H) (cc := za_by y) (own := za_cn (za_own y)) (Ts := za_tb) ⟨hx, hb, hml, hown, hts⟩ hM hCB ⟨za_blind, hPU⟩ rfl (by rw [List.length_map]; exact k4) hlv.1 q3 (lv_room q5) (za_w hdg hk rfl (by decide)) ⟨hRc, hRs⟩
              exact za_after (z := z) (mk := 0) hrun hS (fun H1 locs1 a1 a2 a3 a4 => fin H1 locs1 q2 a1 a2 a3 a4)
            · obtain ⟨rfl, -, k2, k3, k4, k5, k6, k7⟩ := za_call_ok hcl
              have hnl := za_look_in hlk
              have hmq := za_n_all _ hnl
              obtain ⟨hz, -⟩ := hmq
              dsimp only at hz
              obtain ⟨q1, q2, q3, q4, q5, hM⟩ := key false hcl hz
              obtain ⟨o1, o2, o3, o4, o5, o6, o7, o8, o9, o10, o11⟩ := za_ok_all z hz
              have hz0 : za_st z = true := k2
              rw [hz0] at o6
              have hCN : va_CN R s args (za_cn (za_own y)) ix (za_y z) "ShapeForms" (za_by z) (za_mx z) (za_ret z) (za_cw z) (za_rm z) 0 0 (za_na z) ∧ (Cond.static (za_y z)).before args s = true ∧ True :=
                ⟨va_cnB (za_na z) hts (za_cw_good hz) rfl rfl rfl (hF.2.2.2.2.1 _ hnl) (hts _ o9) ⟨o4, o5, by rw [o6]; rfl⟩ q4, hts _ (o10 hz0), trivial⟩
              have hrun := va_runSN (cells := cells) (slots := slots) (locs := locs) (meth := meth) (below := below) (e := e) (g := F0 m pc lv (st.map (za_cv b bs bk))) (rest := st1.map (za_cv b bs bk)) (nL := za_mx y) (index := ix) (As := as.map (za_cv b bs bk)) (H := H) (cc := za_by y) (own := za_cn (za_own y)) (Ts := za_tb) ⟨hx, hb, hml, hown, hts⟩ hM hCN ⟨za_blind, hPU⟩ rfl (by rw [List.length_map]; exact k4) hlv.1 q3 (lv_room q5) (za_w hdg hk rfl (by decide)) ⟨hRc, hRs⟩
              exact za_after (z := z) (mk := 0) hrun hS (fun H1 locs1 a1 a2 a3 a4 => fin H1 locs1 q2 a1 a2 a3 a4)
        · cases he
          rcases za_do_ret hd with ⟨rfl, rfl, hrt⟩ | ⟨rfl, rfl, hrt⟩
          · have h0 : ¬ za_rt y = 0 := by
              rcases hrt with h | ⟨h, -⟩ <;> omega
            have hdg1 := za_w (n := 1) hdg hk rfl (by decide)
            have q := hret pc H locs lv (by rw [if_neg h0]; exact hdg1) (by rcases hrt with h | h; exact Or.inl h; exact Or.inr (Or.inl h)) hP hS h100 h101
            rw [if_neg h0] at q
            exact q
          · have hdg1 := za_w (n := 1) hdg hk rfl (by decide)
            have q := hret pc H locs lv (by rw [if_pos hrt]; exact hdg1) (Or.inr (Or.inr hrt)) hP hS h100 h101
            rw [if_pos hrt] at q
            exact q
