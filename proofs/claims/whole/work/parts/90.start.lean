/-! THE CLAIM OUT OF ONE WALK OF THE LAW'S BODY. Your part is whole_start (and what it stands on); all else here is the same for every law, but numbers. -/
def R_law : String := "ShapeFormsLaw"
def lw_P (b : Addr) (xs : List Int32) (args : Array Value) (s : State) : Prop := args = #[.ref b] ∧ s.IntsAt b xs ∧ xs.length ≤ 3584 ∧ (Jvm.Cond.and given_1 narrow_1).before args s = true
def lw_Q (_ : Array Value) (s : State) (o : Outcome) (t : State) : Prop := o = .returned (some (.int 1)) ∧ Framed s o t [] 42 1654
def lw_Z (below : List Frame) (a : Array Value) (s : State) : State → Prop := fun t => ∃ o, t.status = .running ∧ Ended t below o ∧ lw_Q a s o t
/-- the law's own end, with 1 on the stack, nothing written that was there before, its room as the claim has it -/
theorem lw_ret {p : Program} {l : Launch} {e : Env} {s : State} {m : MethodId} {below : List Frame} {meth : Method} {c : Code} {b : Nat} (hx : p.tables.exec = Jvm.exec) (hb : c.code = code) (hr : meth.sig.returnType = ret) (hlocks : meth.locks = false) {pc : Nat} {H : Heap} {ls : Array Slot} (hdg : decode code pc = .ok (.ireturn, 1)) : W p l e room_1 s m #[Value.ref b] below meth c H [] 42 1654 (lw_Z below #[Value.ref b] s) (F0 m pc ls [.int 1]) := by
  intro T hT X
  obtain ⟨fs, hret, hrun, hended, hW, hframe⟩ := X.leave (v := some (.int 1)) (hlocks := hlocks) (fun h => by rw [hr] at h; cases h)
  have hmeth' : T.vm.method? m = some meth := X.method'
  refine ⟨T.setFrames fs, ?_, .returned (some (.int 1)), hrun, hended, rfl, ⟨_, rfl⟩, hW, hframe⟩
  jvm_step X.here [X.here.top, hx, hb, hdg, hmeth', hr, ret, narrow_b1]
  (try refine ⟨rfl, ?_⟩); (try refine ⟨rfl, ?_⟩)
  first | (intro acts; rw [hret _ acts rfl rfl rfl]) | rw [hret _ _ rfl rfl rfl]
  exact Steps.refl _
/-- what holds at the law's entry: the machine, the code, the tables' words (any of lw_tbl by 'hts w (by decide +kernel)'), the script of L ints xs at the cell b, what the Statement gives of the start (any of its parts by flat_of_before) -/
def lw_At (p : Program) (s : State) (m : MethodId) (meth : Method) (c : Code) (b L : Nat) (xs : Nat → Int32) : Prop :=
  p.tables.exec = Jvm.exec ∧ c.code = code ∧ meth.sig.returnType = ret ∧ c.maxLocals = 4 ∧ s.vm.findClass R_law = some m.cls ∧ (∀ w ∈ lw_tbl, w.before #[Value.ref b] s = true) ∧ va_X b L xs s s.heap ∧ b < s.heap.size ∧ meth.locks = false ∧ (Jvm.Cond.and given_1 narrow_1).before #[Value.ref b] s = true
abbrev zkT : Term := .static "ShapeForms$Program" "KINDS" "[I"
set_option maxRecDepth 100000 in
theorem zk_all {args : Array Value} {s : State} (hgv : (Jvm.Cond.and given_1 narrow_1).before args s = true) : ∃ t : Nat, zkT.eval args s none [] s = some (.ref t) ∧ va_X t 33 (fun j => nI (zKd.getD j 0)) s s.heap := by
  have hs := flat_of_before _ hgv
  have harr : (Cond.arrayOf zkT .int).before args s = true := hs _ (by decide +kernel)
  have hlen := va_eqt (hs (Cond.eq (.length zkT) (.int 33)) (by decide +kernel))
  have e0 := va_eqt (hs (Cond.eq (.elem zkT (.int 0)) (.int 1)) (by decide +kernel))
  have e1 := va_eqt (hs (Cond.eq (.elem zkT (.int 1)) (.int 0)) (by decide +kernel))
  have e2 := va_eqt (hs (Cond.eq (.elem zkT (.int 2)) (.int 0)) (by decide +kernel))
  have e3 := va_eqt (hs (Cond.eq (.elem zkT (.int 3)) (.int 1)) (by decide +kernel))
  have e4 := va_eqt (hs (Cond.eq (.elem zkT (.int 4)) (.int 0)) (by decide +kernel))
  have e5 := va_eqt (hs (Cond.eq (.elem zkT (.int 5)) (.int 0)) (by decide +kernel))
  have e6 := va_eqt (hs (Cond.eq (.elem zkT (.int 6)) (.int 1)) (by decide +kernel))
  have e7 := va_eqt (hs (Cond.eq (.elem zkT (.int 7)) (.int 1)) (by decide +kernel))
  have e8 := va_eqt (hs (Cond.eq (.elem zkT (.int 8)) (.int 0)) (by decide +kernel))
  have e9 := va_eqt (hs (Cond.eq (.elem zkT (.int 9)) (.int 1)) (by decide +kernel))
  have e10 := va_eqt (hs (Cond.eq (.elem zkT (.int 10)) (.int 1)) (by decide +kernel))
  have e11 := va_eqt (hs (Cond.eq (.elem zkT (.int 11)) (.int 2)) (by decide +kernel))
  have e12 := va_eqt (hs (Cond.eq (.elem zkT (.int 12)) (.int 1)) (by decide +kernel))
  have e13 := va_eqt (hs (Cond.eq (.elem zkT (.int 13)) (.int 2)) (by decide +kernel))
  have e14 := va_eqt (hs (Cond.eq (.elem zkT (.int 14)) (.int 1)) (by decide +kernel))
  have e15 := va_eqt (hs (Cond.eq (.elem zkT (.int 15)) (.int 1)) (by decide +kernel))
  have e16 := va_eqt (hs (Cond.eq (.elem zkT (.int 16)) (.int 3)) (by decide +kernel))
  have e17 := va_eqt (hs (Cond.eq (.elem zkT (.int 17)) (.int 0)) (by decide +kernel))
  have e18 := va_eqt (hs (Cond.eq (.elem zkT (.int 18)) (.int 1)) (by decide +kernel))
  have e19 := va_eqt (hs (Cond.eq (.elem zkT (.int 19)) (.int 1)) (by decide +kernel))
  have e20 := va_eqt (hs (Cond.eq (.elem zkT (.int 20)) (.int 3)) (by decide +kernel))
  have e21 := va_eqt (hs (Cond.eq (.elem zkT (.int 21)) (.int 1)) (by decide +kernel))
  have e22 := va_eqt (hs (Cond.eq (.elem zkT (.int 22)) (.int 1)) (by decide +kernel))
  have e23 := va_eqt (hs (Cond.eq (.elem zkT (.int 23)) (.int 3)) (by decide +kernel))
  have e24 := va_eqt (hs (Cond.eq (.elem zkT (.int 24)) (.int 3)) (by decide +kernel))
  have e25 := va_eqt (hs (Cond.eq (.elem zkT (.int 25)) (.int 0)) (by decide +kernel))
  have e26 := va_eqt (hs (Cond.eq (.elem zkT (.int 26)) (.int 0)) (by decide +kernel))
  have e27 := va_eqt (hs (Cond.eq (.elem zkT (.int 27)) (.int 1)) (by decide +kernel))
  have e28 := va_eqt (hs (Cond.eq (.elem zkT (.int 28)) (.int 0)) (by decide +kernel))
  have e29 := va_eqt (hs (Cond.eq (.elem zkT (.int 29)) (.int 0)) (by decide +kernel))
  have e30 := va_eqt (hs (Cond.eq (.elem zkT (.int 30)) (.int 0)) (by decide +kernel))
  have e31 := va_eqt (hs (Cond.eq (.elem zkT (.int 31)) (.int 0)) (by decide +kernel))
  have e32 := va_eqt (hs (Cond.eq (.elem zkT (.int 32)) (.int 0)) (by decide +kernel))
  have hel : ∀ j : Nat, j < 33 → (Term.elem zkT (.int (Int32.ofNat j))).eval args s none [] s = some (.int (nI (zKd.getD j 0))) := by
    intro j hj
    match j, hj with
    | 0, _ => exact e0
    | 1, _ => exact e1
    | 2, _ => exact e2
    | 3, _ => exact e3
    | 4, _ => exact e4
    | 5, _ => exact e5
    | 6, _ => exact e6
    | 7, _ => exact e7
    | 8, _ => exact e8
    | 9, _ => exact e9
    | 10, _ => exact e10
    | 11, _ => exact e11
    | 12, _ => exact e12
    | 13, _ => exact e13
    | 14, _ => exact e14
    | 15, _ => exact e15
    | 16, _ => exact e16
    | 17, _ => exact e17
    | 18, _ => exact e18
    | 19, _ => exact e19
    | 20, _ => exact e20
    | 21, _ => exact e21
    | 22, _ => exact e22
    | 23, _ => exact e23
    | 24, _ => exact e24
    | 25, _ => exact e25
    | 26, _ => exact e26
    | 27, _ => exact e27
    | 28, _ => exact e28
    | 29, _ => exact e29
    | 30, _ => exact e30
    | 31, _ => exact e31
    | 32, _ => exact e32
    | k + 33, h => exact absurd h (by omega)
  obtain ⟨t, ht, hT⟩ := va_Tof (N := 33) (f := fun j => .int (nI (zKd.getD j 0))) (A := fun _ => False) (by decide) harr hlen hel (fun _ _ z => z)
  exact ⟨t, ht, zk_X (by decide) hlen ht hT⟩
theorem zk_K : ∀ j k, zKd[j]? = some k → nI (zKd.getD j 0) = nI k := by
  intro j k h
  rw [List.getD_eq_getElem?_getD, h]
  rfl
theorem zk_arr {args : Array Value} {s : State} {ty : FieldType} (hp : ty = .int ∨ ty = .boolean) (h : (Cond.arrayClass ty).before args s = true) : ∃ cA : ClassId, ArrOfT s cA ty ∧ va_RA s cA ty := by
  obtain ⟨cA, kA, comp, h1, h2, h3⟩ := Cond.arrayClass_spec h
  refine ⟨cA, fun n z => ⟨fun k h => (by cases h), kA, h2, comp, h3⟩, ?_⟩
  rcases hp with rfl | rfl
  · exact h1
  · exact h1
set_option maxHeartbeats 4000000 in
set_option maxRecDepth 100000 in
theorem whole_start {p : Program} {e : Env} {s : State} {m : MethodId} {below : List Frame} {meth : Method} {c : Code} (l : Launch) {b L : Nat} {xs : Nat → Int32} (hL : L ≤ 3584) (C0 : lw_At p s m meth c b L xs) : W p l e room_1 s m #[Value.ref b] below meth c s.heap [] 0 0 (lw_Z below #[Value.ref b] s) (entryFrame m ([Value.ref b] : List Value).toArray 4) := by
  obtain ⟨hx, hb, hr, hml, hown, hts0, hX, hbl, hlocks, hgv⟩ := id C0
  have hts : ∀ w ∈ za_tb, w.before #[Value.ref b] s = true := fun w hw => hts0 w (List.mem_filter.mp hw).1
  obtain ⟨c0, iS0, hKn0⟩ := u_known (C := RX0) (T := TX0) (N := 6) (n := 6) hts za_gX0 (hts (.instantiable RX0 6) (za_mem 78 rfl rfl))
  obtain ⟨c1, iS1, hKn1⟩ := u_known (C := RX1) (T := TX1) (N := 7) (n := 7) hts za_gX1 (hts (.instantiable RX1 7) (za_mem 48 rfl rfl))
  obtain ⟨c2, iS2, hKn2⟩ := u_known (C := RX2) (T := TX2) (N := 1) (n := 1) hts za_gX2 (hts (.instantiable RX2 1) (za_mem 109 rfl rfl))
  obtain ⟨c3, iS3, hKn3⟩ := u_known (C := RX3) (T := TX3) (N := 6) (n := 6) hts za_gX3 (hts (.instantiable RX3 6) (za_mem 40 rfl rfl))
  obtain ⟨c4, iS4, hKn4⟩ := u_known (C := RX4) (T := TX4) (N := 23) (n := 23) hts za_gX4 (hts (.instantiable RX4 23) (za_mem 431 rfl rfl))
  obtain ⟨D, hKc⟩ : ∃ D : va_G, ∀ (k : Nat) (q : vw_C), vwCl[k]? = some q → u_Kn s q.1 q.2.1 q.2.2 (D.1 k) (D.2 k) := by
    refine ⟨(fun k => if k = 0 then c0 else if k = 1 then c1 else if k = 2 then c2 else if k = 3 then c3 else c4, fun k => if k = 0 then iS0 else if k = 1 then iS1 else if k = 2 then iS2 else if k = 3 then iS3 else iS4), ?_⟩
    intro k q hq
    match k, hq with
    | 0, hq => cases hq; exact hKn0
    | 1, hq => cases hq; exact hKn1
    | 2, hq => cases hq; exact hKn2
    | 3, hq => cases hq; exact hKn3
    | 4, hq => cases hq; exact hKn4
    | k + 5, hq => cases hq
  obtain ⟨cI, hI1, hI2⟩ := zk_arr (Or.inl rfl) (hts (.arrayClass .int) (za_mem 76 rfl rfl))
  obtain ⟨cZ, hZ1, hZ2⟩ := zk_arr (Or.inr rfl) (hts (.arrayClass .boolean) (za_mem 107 rfl rfl))
  have hK : va_K D vwCl [(cI, .int), (cZ, .boolean)] s := by
    refine ⟨hKc, fun k q hq => ?_⟩
    match k, hq with
    | 0, hq => cases hq; exact ⟨hI1, hI2⟩
    | 1, hq => cases hq; exact ⟨hZ1, hZ2⟩
    | k + 2, hq => cases hq
  obtain ⟨bk, hbk, hXk⟩ := zk_all hgv
  have hbkl : bk < s.heap.size := by
    obtain ⟨scr, h8, -⟩ := hXk
    exact (Array.getElem?_eq_some_iff.mp h8).1
  obtain ⟨h, hh⟩ : ∃ h : Nat, s.heap.size = h := ⟨_, rfl⟩
  have hA : h ≤ s.heap.size := by omega
  have hF : za_F D cI cZ h b bk L xs (fun j => nI (zKd.getD j 0)) s := ⟨hK, hX, hXk, va_Zof (hts0 (.laysStatic RX1 "KINDS" "[I") (List.mem_of_getElem? (i := 145) rfl)) (hts (.initialized RX1) (za_mem 34 rfl rfl)) hbk (fun a ha hq => absurd ha (by have hq : h ≤ a := hq; omega)), fun q hq => va_tabs rfl rfl (hts0 _ (za_n_all q hq).2), by omega, by omega⟩
  have hI : zbI D h s [] s.heap [] := ⟨fun k q hq => by simp at hq, zb_nil, va_S.rf⟩
  have hl := lv_entry ([.ref b]) (n := 4) (Nat.le_of_ble_eq_true rfl)
  rw [lg_entry_eq]
  generalize (lg_sl ([.ref b]) ++ List.replicate (4 - (lg_sl ([.ref b])).length) Slot.unset).toArray = ls at hl ⊢
  have hl : lv_has ls 4 [(0, .ref b)] := hl
  refine zb_new (ci := 3) (fs := [.null, .null, .null, .null, .null, .int 0]) (C := RX3) (T := TX3) (N := 6) hx hb hts za_gX3 tyX3 tyX3_ok hown (hts (.classLink RL 7 RX3) (za_mem 39 rfl rfl)) (hts (.instantiable RX3 6) (za_mem 40 rfl rfl)) (hts (.initialized RX3) (za_mem 33 rfl rfl)) hK hI hA rfl zfs3 (Nat.le_of_ble_eq_true rfl) (Nat.le_of_ble_eq_true rfl) dL_law_0 0 rfl (by omega) (fun H hI => ?_)
  refine lv_dup hx hb dL_law_3 rfl ?_
  refine W.widen (k := 1) (n := 6) (by decide) (by decide) ?_
  refine zb_init (ws0 := []) (wd := zw3 cI cZ (h + 0)) (n := 0) hI rfl (by omega) zwa3 (fun hs1 hP1 => va_runI (As := []) (rest := [.ref (h + 0)]) ⟨hx, hb, hml, hown, hts⟩ (c_X3_init l D cI cZ (h + 0)) (cwI 0 hts gIX3_init rfl rfl rfl (hts (.initialized RX3) (za_mem 33 rfl rfl)) (hts (.methodLink RL 9 yX3_init) (za_mem 41 rfl rfl)) (hts (.instanceMethod yX3_init) (za_mem 42 rfl rfl)) rfl (by decide +kernel) ⟨Nat.le_of_ble_eq_true rfl, Nat.le_of_ble_eq_true rfl⟩) ⟨zbP_blind, fun U hU hW => ⟨rfl, by rw [hU]; exact hs1, by rw [hU]; exact hP1, va_K.moved hW.alike hK⟩⟩ rfl rfl hl.1 rfl (lv_room (Nat.le_of_ble_eq_true rfl)) dL_law_4 ⟨Nat.le_of_ble_eq_true rfl, Nat.le_of_ble_eq_true rfl⟩) (fun H locs hI => ?_)
  have hI : zbI D h s (zw3 cI cZ h) H locs := hI
  refine W.widen (k := 26) (n := 666) (by decide) (by decide) ?_
  refine lv_astore_n (lv' := [(1, .ref h), (0, .ref b)]) hx hb dL_law_7 rfl hl (by decide) rfl (fun ls hl => ?_)
  refine zb_new (ci := 4) (fs := [.int 0, .null, .null, .null, .int 0, .null, .null, .null, .null, .int 0, .int 0, .int 0, .null, .null, .int 0, .null, .int 0, .null, .null, .int 0, .null, .null, .null]) (C := RX4) (T := TX4) (N := 23) hx hb hts za_gX4 tyX4 tyX4_ok hown (hts (.classLink RL 10 RX4) (za_mem 430 rfl rfl)) (hts (.instantiable RX4 23) (za_mem 431 rfl rfl)) (hts (.initialized RX4) (za_mem 37 rfl rfl)) hK hI hA rfl zfs4 (Nat.le_of_ble_eq_true rfl) (Nat.le_of_ble_eq_true rfl) dL_law_8 26 rfl (by omega) (fun H hI => ?_)
  refine lv_dup hx hb dL_law_11 rfl ?_
  refine W.widen (k := 27) (n := 689) (by decide) (by decide) ?_
  refine zb_init (ws0 := zw3 cI cZ h) (wd := zw4 cI cZ (h + 26)) (n := 26) hI rfl (by omega) zwa4 (fun hs1 hP1 => va_runI (As := []) (rest := [.ref (h + 26)]) ⟨hx, hb, hml, hown, hts⟩ (c_X4_init l D cI cZ (h + 26)) (cwI 0 hts gIX4_init rfl rfl rfl (hts (.initialized RX4) (za_mem 37 rfl rfl)) (hts (.methodLink RL 12 yX4_init) (za_mem 432 rfl rfl)) (hts (.instanceMethod yX4_init) (za_mem 433 rfl rfl)) rfl (by decide +kernel) ⟨Nat.le_of_ble_eq_true rfl, Nat.le_of_ble_eq_true rfl⟩) ⟨zbP_blind, fun U hU hW => ⟨rfl, by rw [hU]; exact hs1, by rw [hU]; exact hP1, va_K.moved hW.alike hK⟩⟩ rfl rfl hl.1 rfl (lv_room (Nat.le_of_ble_eq_true rfl)) dL_law_12 ⟨Nat.le_of_ble_eq_true rfl, Nat.le_of_ble_eq_true rfl⟩) (fun H locs hI => ?_)
  refine W.widen (k := 42) (n := 1654) (by decide) (by decide) ?_
  refine lv_astore_n (lv' := [(2, .ref (h + 26)), (1, .ref h), (0, .ref b)]) hx hb dL_law_15 rfl hl (by decide) rfl (fun ls hl => ?_)
  refine lv_iconst (v := 0) hx hb dL_law_16 (by decide) ?_
  refine lv_istore_n (lv' := [(3, .int (nI 0)), (2, .ref (h + 26)), (1, .ref h), (0, .ref b)]) hx hb dL_law_17 rfl hl (by decide) rfl (fun ls hl => ?_)
  have hP : va_P D vwCl (za_W cI cZ h (zM0 xs (fun j => nI (zKd.getD j 0)))) H := hI.1
  obtain ⟨n, r, M', he, hq⟩ := law_loop (L := L) (by omega) L 0 (zM0 xs (fun j => nI (zKd.getD j 0))) (by omega) (Nat.zero_le _) ⟨_, _, _, _, _, _, zM0_J zk_K⟩
  have hlv : za_lv h b bk ls (za_mx 109) [.ref 100, .ref 0, .ref 26, .int (nI 0)] := by
    refine ⟨hl.1, rfl, hl.2.1, fun i x hi => ?_, fun i x hi => ?_⟩
    · match i, hi with
      | 3, hi => cases hi; exact lv_at hl 0 rfl
      | k + 4, hi => cases hi
    · match i, hi with
      | 0, hi => cases hi; exact lv_at hl 3 rfl
      | 1, hi => cases hi; exact lv_at hl 2 rfl
      | 2, hi => cases hi; exact lv_at hl 1 rfl
      | k + 4, hi => cases hi
  refine za_sound l D cI cZ h b bk L xs (fun j => nI (zKd.getD j 0)) n 109 18 [.ref 100, .ref 0, .ref 26, .int (nI 0)] [] (zM0 xs (fun j => nI (zKd.getD j 0))) r M' he (fun _ hv => absurd hv List.not_mem_nil) rfl rfl p e s m #[Value.ref b] below meth c room_1 42 1654 _ H locs ls ⟨hx, hb, hml, hown, hts, hF, ⟨by decide, by decide⟩, Nat.le_refl _, Nat.le_refl _⟩ hP hI.2.2 hlv ?_
  intro pc H1 locs1 lv1 hdg hrt hP1 hS1 h100 h101
  subst hq
  refine va_forget (fun q hq => ?_) ?_
  · have := hS1.2.2 q hq
    rw [hh]
    exact this
  · exact lw_ret hx hb hr hlocks hdg
set_option maxHeartbeats 4000000 in
theorem lw_walk (l : Launch) (b : Addr) (xs : List Int32) : MetFree l x (headSpec (Jvm.Cond.code x code maxLocals ret :: tables_1) room_1) (lw_P b xs) (fun _ _ _ _ _ => True) lw_Q := by
  refine MetFree.of_bodyS (code := code) (maxLocals := maxLocals) (ret := ret) (by decide) ?_ ?_
  · intro args s m h hn
    obtain ⟨meth, c, h1, h2, h3, h4, h5, h6, -, -⟩ := Cond.code_spec hn (atoms_spec (ws := Jvm.Cond.code x code maxLocals ret :: tables_1) h _ List.mem_cons_self)
    exact ⟨meth, c, h1, h2, h3, h4, h5, h6⟩
  · intro p e s m args below meth c s₁ B hml0 hP _
    obtain ⟨rfl, hx, hbd, hgv⟩ := hP
    obtain ⟨scr, harrAt, hlist, hof, hsmall⟩ := hx
    obtain ⟨hcb, hkn, -, -⟩ := State.arrayAt?_spec harrAt
    have hown : s.vm.findClass R_law = some m.cls := findClass_of_methodNamed B.named
    have hts0 : ∀ c ∈ (Jvm.Cond.code x code maxLocals ret :: tables_1), c.before #[Value.ref b] s = true := atoms_spec (ws := Jvm.Cond.code x code maxLocals ret :: tables_1) B.pre
    have hts : ∀ w ∈ lw_tbl, w.before #[Value.ref b] s = true := k2_hts_sels lw_privs (fun w hw => hts0 w (List.mem_cons_of_mem _ hw)) lw_privs_ok
    have hml : c.maxLocals = 4 := B.maxLocals_eq (hts0 _ List.mem_cons_self)
    have X₀ : Stand p l e room_1 s m #[Value.ref b] below meth c s₁ [] 0 0 := Stand.of_body B
    have hh0 : s₁.heap = s.heap := by rw [B.state]; rfl
    have hsz : scr.slots.size = xs.length := by rw [← Array.length_toList, hlist, List.length_map]
    have hval : ∀ j : Nat, j < xs.length → scr.slots[j]? = some (.int (xs.getD j 0)) := fun j hj => by
      rw [← Array.getElem?_toList, hlist]
      simp [hj]
    have hbl : b < s.heap.size := (Array.getElem?_eq_some_iff.mp hcb).1
    have hX : va_X b xs.length (fun j => xs.getD j 0) s s.heap := ⟨scr, hcb, hof, hkn, hsz, hval⟩
    have K : W p l e room_1 s m #[Value.ref b] below meth c s₁.heap [] 0 0 (lw_Z below #[Value.ref b] s) (entryFrame m ([Value.ref b] : List Value).toArray 4) := by
      rw [hh0]
      exact whole_start l hbd ⟨B.exec, B.bytes, B.returns, hml, hown, hts, hX, hbl, B.notSynchronized, hgv⟩
    obtain ⟨t, a1, o, b1, b2, b3⟩ := K s₁ rfl X₀
    exact ⟨t, o, a1, b1, b2, b3⟩
theorem lw_pre_spec {args : Array Value} {s : State} (h : (Jvm.Cond.and given_1 narrow_1).before args s = true) (hr : rest_1_c.before args s = true) : ∃ (b : Addr) (xs : List Int32), lw_P b xs args s := by
  have hs := flat_of_before _ h
  have hq := flat_of_before _ hr
  have hc : (Cond.count 1).before args s = true := hs _ (by decide +kernel)
  have harr : (Cond.arrayOf (.arg 0) .int).before args s = true := hs _ (by decide +kernel)
  have hle : (Cond.le (.length (.arg 0)) (.int 3584)).before args s = true := hs _ (by decide +kernel)
  have hlen : (Cond.isInt (.length (.arg 0))).before args s = true := hq _ (by decide +kernel)
  have hall : (Cond.all (.arg 0) (.isInt (.elem (.arg 0) (.index 0)))).before args s = true := hq _ (by decide +kernel)
  obtain ⟨b, xs, hb, hx⟩ := State.ints_of_pre rfl harr hlen hall
  have hsm : xs.length < 2 ^ 31 := hx.choose_spec.2.2.2
  have hev : (Term.length (.arg 0)).eval args s none [] s = some (.int xs.length.toInt32) := hx.length_eval hb
  have hv := Cond.le_ints hev (show (Term.int 3584).eval args s none [] s = some (.int 3584) from rfl)
  have hd : xs.length.toInt32 ≤ 3584 := by
    simpa [Cond.before, Cond.holds, hv] using hle
  have hN : xs.length ≤ 3584 := (Int32.ofNat_le_ofNat hsm (by decide)).mp (show Int32.ofNat xs.length ≤ Int32.ofNat 3584 from hd)
  exact ⟨b, xs, Cond.one_arg hc (show args[0]? = some (.ref b) from hb), hx, hN, h⟩
theorem lw_comes (l : Launch) : Comes l x (Jvm.Cond.code x code maxLocals ret :: tables_1) room_1 (fun tb e args s => Calls_1 tb e args s ∧ rest_1 tb e args s ∧ Pre_1 tb e args s)
    (fun _ _ args s o t => lw_Q args s o t) := by
  intro p e ha hc hk s m args below hf hfit hheap happ hpre
  obtain ⟨b, xs, hP⟩ := lw_pre_spec hpre.2.2 hpre.2.1
  obtain ⟨k, o, h1, h2, h3, hQ⟩ := lw_walk l b xs p e ha hc hk s m args below hf ((Spec.applies_iff_loose hf).mp happ).1 hP trivial
  exact ⟨k, o, h1, h2, h3, hQ⟩
theorem lw_frame {s t : State} {o : Outcome} {args : Array Value} (h : Framed s o t [] 42 1654) :
    Framed s o t (fieldLocs frame_1_writes args s ++ arrayLocs frame_1_arrays args s ++ staticLocs frame_1_statics s) 42 1654 := h
theorem lw_limb (L : Cond) (hL : ∀ (args : Array Value) (s t : State), L.after args s (.returned (some (.int 1))) t = true) :
    ArmFor flags0 classFile x code maxLocals ret World_1 tables_1 room_1 Calls_1 rest_1 Pre_1
      (fun tb e a s o t => postC L tb e a s o t ∧ Framed s o t (fieldLocs frame_1_writes a s ++ arrayLocs frame_1_arrays a s ++ staticLocs frame_1_statics s) 42 1654) := by
  intro l _ _ _ p e ha hc hk s m args below hf hfit hheap happ hpre
  obtain ⟨k, o, h1, h2, h3, rfl, hF⟩ := lw_comes l p e ha hc hk s m args below hf hfit hheap happ hpre
  exact ⟨k, _, h1, h2, h3, hL args s _, lw_frame hF⟩
theorem i_vc : Claimed_1_1 ∧ Claimed_1_2 := ⟨lw_limb limb_1_1 (fun args s t => by simp [limb_1_1, Cond.after, Cond.holds, Cond.value]), lw_limb limb_1_2 (fun args s t => Cond.after_iff.mpr (by
  first | (rw [show limb_1_2 = Cond.eq .result (.int 1) from rfl, Cond.eq_ints (x := 1) (y := 1) rfl rfl]; simp; done) | (simp [limb_1_2, Cond.value, Term.eval]; done)))⟩
