/-! one instruction of the evaluator is one of the machine: all but calls and returns -/
def za_F (D : va_G) (cI cZ : ClassId) (b bs bk L : Nat) (xs ks : Nat → Int32) (s : State) : Prop := va_K D vwCl [(cI, .int), (cZ, .boolean)] s ∧ va_X bs L xs s s.heap ∧ va_X bk 33 ks s s.heap ∧ va_Z RX1 "KINDS" "[I" (.ref bk) (fun q => b ≤ q) s s.heap ∧ (∀ q ∈ za_nl, va_Nw (.methodLinkNest (za_cn q.1.1) q.1.2 (za_y q.2) "ShapeForms") s) ∧ bs < b ∧ bk < b
def za_Fix (D : va_G) (cI cZ : ClassId) (b bs bk L : Nat) (xs ks : Nat → Int32) (p : Program) (s : State) (m : MethodId) (args : Array Value) (c : Code) (y : Nat) (R : Room) (cells slots : Nat) : Prop := p.tables.exec = Jvm.exec ∧ c.code = za_by y ∧ c.maxLocals = za_mx y ∧ s.vm.findClass (za_cn (za_own y)) = some m.cls ∧ (∀ w ∈ za_tb, w.before args s = true) ∧ za_F D cI cZ b bs bk L xs ks s ∧ (za_ht y ≤ R.frames ∧ 31 * za_ht y ≤ R.locals) ∧ cells ≤ R.cells ∧ slots ≤ R.slots
theorem za_w {cc : ByteArray} {pc k n : Nat} {i : Instr} (h : decode cc pc = .ok (i, k)) (hk : k = za_wd i ∨ za_wd i = 0) (hn : za_wd i = n) (h0 : n ≠ 0) : decode cc pc = .ok (i, n) := by
  subst hn
  rcases hk with rfl | hk
  · exact h
  · exact absurd hk h0
theorem za_tg_ok {pc t : Nat} {off : Int} (h : za_tg pc off = some t) : (pc : Int) + off = (t : Int) := by
  unfold za_tg at h
  split at h
  · cases h; omega
  · cases h
theorem za_at_len {L a : Nat} {x : za_L} (h : za_at L a = some x) (h1 : a ≠ 100) (h2 : a ≠ 101) : a < 42 := by
  unfold za_at at h
  rw [if_neg h1, if_neg h2] at h
  exact (List.getElem?_eq_some_iff.mp h).1
theorem za_ln_ok {L a n : Nat} {z : Bool} (h : za_ln L a z = some n) : za_at L a = some (.inr (z, n)) := by
  unfold za_ln at h
  split at h
  · rename_i w k hk
    split at h
    · rename_i e
      cases h
      subst e
      exact hk
    · cases h
  · cases h
def za_cf : Bool := za_cells.all (fun x => match x with
  | .inl (ci, fs) => decide (ci < 5) && (decide (fs.length = (vwCl.getD ci ("", TX0, 0)).2.2) && fs.zipIdx.all (fun q => match q.1 with
    | none => decide (parseFieldDescriptor (za_T ci q.2).2.2.1 = some .int) && !(za_T ci q.2).2.2.2
    | some _ => true))
  | .inr _ => true)
set_option maxRecDepth 100000 in
theorem za_cf_ok : za_cf = true := by decide +kernel
theorem za_obj {c ci : Nat} {fs : List (Option Nat)} (h : za_cells[c]? = some (.inl (ci, fs))) : ci < 5 ∧ fs.length = (vwCl.getD ci ("", TX0, 0)).2.2 ∧ ∀ k, fs[k]? = some none → parseFieldDescriptor (za_T ci k).2.2.1 = some .int ∧ (za_T ci k).2.2.2 = false := by
  have h1 := List.all_eq_true.mp za_cf_ok _ (List.mem_of_getElem? h)
  simp only [Bool.and_eq_true, decide_eq_true_eq] at h1
  refine ⟨h1.1, h1.2.1, fun k hk => ?_⟩
  have h2 := List.all_eq_true.mp h1.2.2 (none, k) (List.mem_zipIdx_iff_getElem?.mpr hk)
  simp only [Bool.and_eq_true, decide_eq_true_eq, Bool.not_eq_true'] at h2
  exact h2
theorem za_clsin {ci : Nat} (h : ci < 5) : ∃ (C : String) (T : u_T) (N : Nat) (ty : Nat → FieldType), vwCl[ci]? = some (C, T, N) ∧ (∀ w ∈ u_ws C T N, w ∈ za_tb) ∧ za_T ci = T ∧ (vwCl.getD ci ("", TX0, 0)).2.2 = N ∧ (∀ k, k < N → parseFieldDescriptor (T k).2.2.1 = some (ty k)) ∧ (∀ a, a < N → ∀ b, b < N → a ≠ b → (T a).2.1 ≠ (T b).2.1) := by
  match ci, h with
  | 0, _ => exact ⟨RX0, TX0, 6, tyX0, rfl, za_gX0, rfl, rfl, tyX0_ok, nmX0⟩
  | 1, _ => exact ⟨RX1, TX1, 7, tyX1, rfl, za_gX1, rfl, rfl, tyX1_ok, nmX1⟩
  | 2, _ => exact ⟨RX2, TX2, 1, tyX2, rfl, za_gX2, rfl, rfl, tyX2_ok, nmX2⟩
  | 3, _ => exact ⟨RX3, TX3, 6, tyX3, rfl, za_gX3, rfl, rfl, tyX3_ok, nmX3⟩
  | 4, _ => exact ⟨RX4, TX4, 23, tyX4, rfl, za_gX4, rfl, rfl, tyX4_ok, nmX4⟩
theorem za_up_ne {M : za_M} {c k q : Nat} {x : Int32} (h : q ≠ c) : za_up M c k x q = M q := za_row_ne h
section ZN
variable {l : Launch} {D : va_G} {cI cZ : ClassId} {b bs bk L : Nat} {xs ks : Nat → Int32} {p : Program} {e : Env} {s : State} {m : MethodId} {args : Array Value} {below : List Frame} {meth : Method} {c : Code} {R : Room} {cells slots : Nat} {Q : State → Prop} {H : Heap} {locs : List Loc} {lv : Array Slot} {y : Nat} {pc : Nat} {ls st : List Value} {M : za_M}
set_option maxHeartbeats 4000000 in
set_option maxRecDepth 100000 in
theorem za_nxt (hfix : za_Fix D cI cZ b bs bk L xs ks p s m args c y R cells slots) (hst : ∀ v ∈ st, v.category = 1) (h100 : M 100 = xs) (h101 : M 101 = ks) (hP : va_P D vwCl (za_W cI cZ b M) H) (hS : va_S (fun q => b ≤ q) s.heap H locs) (hlv : za_lv b bs bk lv (za_mx y) ls)
    {i : Instr} {kn : Nat} (hdg : decode (za_by y) pc = .ok (i, kn)) (hk : kn = za_wd i ∨ za_wd i = 0) {pc1 : Nat} {ls1 st1 : List Value} {M1 : za_M} (hd : za_do L y pc i ls st M = some (.inl (pc1, ls1, st1, M1))) :
    (∀ v ∈ st1, v.category = 1) ∧ M1 100 = xs ∧ M1 101 = ks ∧ ((∀ (H1 : Heap) (locs1 : List Loc) (lv1 : Array Slot), va_P D vwCl (za_W cI cZ b M1) H1 → va_S (fun q => b ≤ q) s.heap H1 locs1 → za_lv b bs bk lv1 (za_mx y) ls1 → W p l e R s m args below meth c H1 locs1 cells slots Q (F0 m pc1 lv1 (st1.map (za_cv b bs bk)))) → W p l e R s m args below meth c H locs cells slots Q (F0 m pc lv (st.map (za_cv b bs bk)))) := by
  obtain ⟨hx, hb, hml, hown, hts, ⟨hK, hXs, hXk, hZ, hN, hbs, hbk⟩, ⟨hRf, hRl⟩, hRc, hRs⟩ := hfix
  have hmx : ls.length = za_mx y := hlv.2.1
  have hWD := za_WD cI cZ b M
  unfold za_do at hd
  split at hd
  -- aload
  · split at hd
    · rename_i r hr
      cases hd
      exact ⟨List.forall_mem_cons.mpr ⟨rfl, hst⟩, h100, h101, fun kk => lv_aload hx hb (za_w hdg hk rfl (by decide)) (hlv.2.2.2.2 _ _ hr) (kk H locs lv hP hS hlv)⟩
    · cases hd
  -- aload_n
  · split at hd
    · rename_i r hr
      cases hd
      exact ⟨List.forall_mem_cons.mpr ⟨rfl, hst⟩, h100, h101, fun kk => lv_aload_n hx hb (za_w hdg hk rfl (by decide)) rfl (hlv.2.2.2.2 _ _ hr) (kk H locs lv hP hS hlv)⟩
    · cases hd
  -- iload
  · split at hd
    · rename_i r hr
      cases hd
      exact ⟨List.forall_mem_cons.mpr ⟨rfl, hst⟩, h100, h101, fun kk => lv_iload hx hb (za_w hdg hk rfl (by decide)) (hlv.2.2.2.1 _ _ hr) (kk H locs lv hP hS hlv)⟩
    · cases hd
  -- iload_n
  · split at hd
    · rename_i r hr
      cases hd
      exact ⟨List.forall_mem_cons.mpr ⟨rfl, hst⟩, h100, h101, fun kk => lv_iload_n hx hb (za_w hdg hk rfl (by decide)) rfl (hlv.2.2.2.1 _ _ hr) (kk H locs lv hP hS hlv)⟩
    · cases hd
  -- istore
  · split at hd
    · split at hd
      · rename_i x st0 hkl
        cases hd
        have hn := hkl
        rw [hmx] at hn
        exact ⟨(List.forall_mem_cons.mp hst).2, h100, h101, fun kk => lv_istore hx hb (za_w hdg hk rfl (by decide)) (za_lv_has hlv) hn rfl (fun lv1 h1 => kk H locs lv1 hP hS (za_lv_set (v := .int x) hlv hn (Or.inl ⟨x, rfl⟩) h1))⟩
      · cases hd
    · cases hd
  -- istore_n
  · split at hd
    · split at hd
      · rename_i x st0 hkl
        cases hd
        have hn := hkl
        rw [hmx] at hn
        exact ⟨(List.forall_mem_cons.mp hst).2, h100, h101, fun kk => lv_istore_n hx hb (za_w hdg hk rfl (by decide)) rfl (za_lv_has hlv) hn rfl (fun lv1 h1 => kk H locs lv1 hP hS (za_lv_set (v := .int x) hlv hn (Or.inl ⟨x, rfl⟩) h1))⟩
      · cases hd
    · cases hd
  -- astore
  · split at hd
    · split at hd
      · rename_i x st0 hkl
        cases hd
        have hn := hkl
        rw [hmx] at hn
        exact ⟨(List.forall_mem_cons.mp hst).2, h100, h101, fun kk => lv_astore hx hb (za_w hdg hk rfl (by decide)) (za_lv_has hlv) hn rfl (fun lv1 h1 => kk H locs lv1 hP hS (za_lv_set (v := .ref x) hlv hn (Or.inr ⟨x, rfl⟩) h1))⟩
      · cases hd
    · cases hd
  -- iinc
  · split at hd
    · rename_i x hr
      cases hd
      have hn := (List.getElem?_eq_some_iff.mp hr).1
      rw [hmx] at hn
      obtain ⟨j, hj⟩ := List.getElem?_of_mem (za_ps_int (b := b) (bs := bs) (bk := bk) hr)
      exact ⟨hst, h100, h101, fun kk => lv_iinc hx hb (za_w hdg hk rfl (by decide)) (za_lv_has hlv) hj rfl hn rfl (fun lv1 h1 => kk H locs lv1 hP hS (za_lv_set (v := .int _) hlv hn (Or.inl ⟨_, rfl⟩) h1))⟩
    · cases hd
  -- iconst
  · cases hd
    exact ⟨List.forall_mem_cons.mpr ⟨rfl, hst⟩, h100, h101, fun kk => lv_iconst hx hb (za_w hdg hk rfl (by decide)) rfl (kk H locs lv hP hS hlv)⟩
  -- bipush
  · cases hd
    exact ⟨List.forall_mem_cons.mpr ⟨rfl, hst⟩, h100, h101, fun kk => lv_bipush hx hb (za_w hdg hk rfl (by decide)) rfl (kk H locs lv hP hS hlv)⟩
  -- sipush
  · cases hd
    exact ⟨List.forall_mem_cons.mpr ⟨rfl, hst⟩, h100, h101, fun kk => lv_sipush hx hb (za_w hdg hk rfl (by decide)) rfl (kk H locs lv hP hS hlv)⟩
  -- ldc
  · split at hd
    · rename_i v hv
      cases hd
      exact ⟨List.forall_mem_cons.mpr ⟨rfl, hst⟩, h100, h101, fun kk => lv_ldc hx hb hown (hts _ (za_c_all _ (za_look_in hv))) (za_w hdg hk rfl (by decide)) (kk H locs lv hP hS hlv)⟩
    · cases hd
  -- iadd
  · split at hd
    · cases hd
      exact ⟨List.forall_mem_cons.mpr ⟨rfl, (List.forall_mem_cons.mp (List.forall_mem_cons.mp hst).2).2⟩, h100, h101, fun kk => lv_iadd hx hb (za_w hdg hk rfl (by decide)) (kk H locs lv hP hS hlv)⟩
    · cases hd
  -- isub
  · split at hd
    · cases hd
      exact ⟨List.forall_mem_cons.mpr ⟨rfl, (List.forall_mem_cons.mp (List.forall_mem_cons.mp hst).2).2⟩, h100, h101, fun kk => lv_isub hx hb (za_w hdg hk rfl (by decide)) (kk H locs lv hP hS hlv)⟩
    · cases hd
  -- imul
  · split at hd
    · cases hd
      exact ⟨List.forall_mem_cons.mpr ⟨rfl, (List.forall_mem_cons.mp (List.forall_mem_cons.mp hst).2).2⟩, h100, h101, fun kk => lv_imul hx hb (za_w hdg hk rfl (by decide)) (kk H locs lv hP hS hlv)⟩
    · cases hd
  -- iand
  · split at hd
    · cases hd
      exact ⟨List.forall_mem_cons.mpr ⟨rfl, (List.forall_mem_cons.mp (List.forall_mem_cons.mp hst).2).2⟩, h100, h101, fun kk => lv_iand hx hb (za_w hdg hk rfl (by decide)) (kk H locs lv hP hS hlv)⟩
    · cases hd
  -- ior
  · split at hd
    · cases hd
      exact ⟨List.forall_mem_cons.mpr ⟨rfl, (List.forall_mem_cons.mp (List.forall_mem_cons.mp hst).2).2⟩, h100, h101, fun kk => lv_ior hx hb (za_w hdg hk rfl (by decide)) (kk H locs lv hP hS hlv)⟩
    · cases hd
  -- ishl
  · split at hd
    · cases hd
      exact ⟨List.forall_mem_cons.mpr ⟨rfl, (List.forall_mem_cons.mp (List.forall_mem_cons.mp hst).2).2⟩, h100, h101, fun kk => lv_ishl hx hb (za_w hdg hk rfl (by decide)) (kk H locs lv hP hS hlv)⟩
    · cases hd
  -- ishr
  · split at hd
    · cases hd
      exact ⟨List.forall_mem_cons.mpr ⟨rfl, (List.forall_mem_cons.mp (List.forall_mem_cons.mp hst).2).2⟩, h100, h101, fun kk => lv_ishr hx hb (za_w hdg hk rfl (by decide)) (kk H locs lv hP hS hlv)⟩
    · cases hd
  -- idiv
  · split at hd
    · split at hd
      · rename_i hne
        cases hd
        exact ⟨List.forall_mem_cons.mpr ⟨rfl, (List.forall_mem_cons.mp (List.forall_mem_cons.mp hst).2).2⟩, h100, h101, fun kk => lv_idiv hx hb (za_w hdg hk rfl (by decide)) hne (kk H locs lv hP hS hlv)⟩
      · cases hd
    · cases hd
  -- irem
  · split at hd
    · split at hd
      · rename_i hne
        cases hd
        exact ⟨List.forall_mem_cons.mpr ⟨rfl, (List.forall_mem_cons.mp (List.forall_mem_cons.mp hst).2).2⟩, h100, h101, fun kk => lv_irem hx hb (za_w hdg hk rfl (by decide)) hne (kk H locs lv hP hS hlv)⟩
      · cases hd
    · cases hd
  -- dup
  · split at hd
    · cases hd
      exact ⟨List.forall_mem_cons.mpr ⟨rfl, hst⟩, h100, h101, fun kk => lv_dup hx hb (za_w hdg hk rfl (by decide)) rfl (kk H locs lv hP hS hlv)⟩
    · cases hd
      exact ⟨List.forall_mem_cons.mpr ⟨rfl, hst⟩, h100, h101, fun kk => lv_dup hx hb (za_w hdg hk rfl (by decide)) rfl (kk H locs lv hP hS hlv)⟩
    · cases hd
  -- pop
  · split at hd
    · cases hd
      exact ⟨(List.forall_mem_cons.mp hst).2, h100, h101, fun kk => lv_pop hx hb (za_w hdg hk rfl (by decide)) rfl (kk H locs lv hP hS hlv)⟩
    · cases hd
  -- goto
  · unfold za_go at hd
    dsimp only at hd
    split at hd
    · rename_i t ht
      cases hd
      exact ⟨hst, h100, h101, fun kk => lv_goto hx hb (za_w hdg hk rfl (by decide)) (za_tg_ok ht) (kk H locs lv hP hS hlv)⟩
    · cases hd
  -- ifCond
  · split at hd
    · split at hd
      · rename_i cnd off _ x st0 _ t ht
        cases hd
        have hdg' := za_w (n := 3) hdg hk rfl (by decide)
        refine ⟨(List.forall_mem_cons.mp hst).2, h100, h101, fun kk => ?_⟩
        cases cnd
        · exact lv_if_eq hx hb hdg' (za_tg_ok ht) (fun h => by have q := kk H locs lv hP hS hlv; rwa [show za_jp .eq x 0 t (pc + 3) = t from if_pos h] at q) (fun h => by have q := kk H locs lv hP hS hlv; rwa [show za_jp .eq x 0 t (pc + 3) = pc + 3 from if_neg h] at q)
        · exact lv_if_ne hx hb hdg' (za_tg_ok ht) (fun h => by have q := kk H locs lv hP hS hlv; rwa [show za_jp .ne x 0 t (pc + 3) = t from if_neg h] at q) (fun h => by have q := kk H locs lv hP hS hlv; rwa [show za_jp .ne x 0 t (pc + 3) = pc + 3 from if_pos h] at q)
        · exact lv_if_lt hx hb hdg' (za_tg_ok ht) (fun h => by have q := kk H locs lv hP hS hlv; rwa [show za_jp .lt x 0 t (pc + 3) = t from if_pos h] at q) (fun h => by have q := kk H locs lv hP hS hlv; rwa [show za_jp .lt x 0 t (pc + 3) = pc + 3 from if_neg h] at q)
        · exact lv_if_ge hx hb hdg' (za_tg_ok ht) (fun h => by have q := kk H locs lv hP hS hlv; rwa [show za_jp .ge x 0 t (pc + 3) = t from if_pos h] at q) (fun h => by have q := kk H locs lv hP hS hlv; rwa [show za_jp .ge x 0 t (pc + 3) = pc + 3 from if_neg h] at q)
        · exact lv_if_gt hx hb hdg' (za_tg_ok ht) (fun h => by have q := kk H locs lv hP hS hlv; rwa [show za_jp .gt x 0 t (pc + 3) = t from if_pos h] at q) (fun h => by have q := kk H locs lv hP hS hlv; rwa [show za_jp .gt x 0 t (pc + 3) = pc + 3 from if_neg h] at q)
        · exact lv_if_le hx hb hdg' (za_tg_ok ht) (fun h => by have q := kk H locs lv hP hS hlv; rwa [show za_jp .le x 0 t (pc + 3) = t from if_pos h] at q) (fun h => by have q := kk H locs lv hP hS hlv; rwa [show za_jp .le x 0 t (pc + 3) = pc + 3 from if_neg h] at q)
      · cases hd
    · cases hd
  -- if_icmp
  · split at hd
    · split at hd
      · rename_i cnd off _ x2 x1 st0 _ t ht
        cases hd
        have hdg' := za_w (n := 3) hdg hk rfl (by decide)
        refine ⟨(List.forall_mem_cons.mp (List.forall_mem_cons.mp hst).2).2, h100, h101, fun kk => ?_⟩
        cases cnd
        · exact lv_icmp_eq hx hb hdg' (za_tg_ok ht) (fun h => by have q := kk H locs lv hP hS hlv; rwa [show za_jp .eq x1 x2 t (pc + 3) = t from if_pos h] at q) (fun h => by have q := kk H locs lv hP hS hlv; rwa [show za_jp .eq x1 x2 t (pc + 3) = pc + 3 from if_neg h] at q)
        · exact lv_icmp_ne hx hb hdg' (za_tg_ok ht) (fun h => by have q := kk H locs lv hP hS hlv; rwa [show za_jp .ne x1 x2 t (pc + 3) = t from if_neg h] at q) (fun h => by have q := kk H locs lv hP hS hlv; rwa [show za_jp .ne x1 x2 t (pc + 3) = pc + 3 from if_pos h] at q)
        · exact lv_icmp_lt hx hb hdg' (za_tg_ok ht) (fun h => by have q := kk H locs lv hP hS hlv; rwa [show za_jp .lt x1 x2 t (pc + 3) = t from if_pos h] at q) (fun h => by have q := kk H locs lv hP hS hlv; rwa [show za_jp .lt x1 x2 t (pc + 3) = pc + 3 from if_neg h] at q)
        · exact lv_icmp_ge hx hb hdg' (za_tg_ok ht) (fun h => by have q := kk H locs lv hP hS hlv; rwa [show za_jp .ge x1 x2 t (pc + 3) = t from if_pos h] at q) (fun h => by have q := kk H locs lv hP hS hlv; rwa [show za_jp .ge x1 x2 t (pc + 3) = pc + 3 from if_neg h] at q)
        · exact lv_icmp_gt hx hb hdg' (za_tg_ok ht) (fun h => by have q := kk H locs lv hP hS hlv; rwa [show za_jp .gt x1 x2 t (pc + 3) = t from if_pos h] at q) (fun h => by have q := kk H locs lv hP hS hlv; rwa [show za_jp .gt x1 x2 t (pc + 3) = pc + 3 from if_neg h] at q)
        · exact lv_icmp_le hx hb hdg' (za_tg_ok ht) (fun h => by have q := kk H locs lv hP hS hlv; rwa [show za_jp .le x1 x2 t (pc + 3) = t from if_pos h] at q) (fun h => by have q := kk H locs lv hP hS hlv; rwa [show za_jp .le x1 x2 t (pc + 3) = pc + 3 from if_neg h] at q)
      · cases hd
    · cases hd
  -- tableswitch
  · split at hd
    · rename_i dflt lo hi offs x st0
      unfold za_go at hd
      split at hd
      · rename_i o ho
        split at hd
        · rename_i t ht
          cases hd
          refine ⟨(List.forall_mem_cons.mp hst).2, h100, h101, fun kk => ?_⟩
          unfold za_off at ho
          split at ho
          · rename_i hout
            cases ho
            exact lv_tableOut hx hb hdg hout (za_tg_ok ht) (kk H locs lv hP hS hlv)
          · rename_i hout
            exact lv_tableIn hx hb hdg (fun q => hout (Or.inl q)) (fun q => hout (Or.inr q)) ho (za_tg_ok ht) (kk H locs lv hP hS hlv)
        · cases hd
      · cases hd
    · cases hd
  -- lookupswitch
  · split at hd
    · split at hd
      · rename_i dflt ps x st0 hps
        unfold za_go at hd
        dsimp only at hd
        split at hd
        · rename_i t ht
          cases hd
          exact ⟨(List.forall_mem_cons.mp hst).2, h100, h101, fun kk => lv_lookup hx hb hdg hps rfl (za_tg_ok ht) (kk H locs lv hP hS hlv)⟩
        · cases hd
      · cases hd
    · cases hd
  -- getfield
  · split at hd
    · split at hd
      · rename_i ix _ h st0 _ ci k hlk
        split at hd
        · rename_i hlt
          split at hd
          · rename_i v hv
            cases hd
            have hf := za_f_all _ (za_look_in hlk)
            obtain ⟨hc5, hkN, hfl⟩ := hf
            obtain ⟨C, T, N, ty, hcl, hin, hT, hNe, hty, hnm⟩ := za_clsin hc5
            dsimp only at hkN hfl
            rw [hNe] at hkN
            rw [hT] at hfl
            unfold za_fv at hv
            split at hv
            · rename_i cj fs hat
              split at hv
              · rename_i hcj
                subst hcj
                have he := za_W_get cI cZ b M hlt hat
                have hcat : v.category = 1 ∧ (za_fvs b M h 0 fs)[k]? = some (za_cv b bs bk v) := by
                  rw [za_fvs_at]
                  have hall : ∀ q, fs[k]? = some (some q) → q < 42 := by
                    intro q hq
                    rw [za_at_lt hlt] at hat
                    have h3 : za_cells.all (fun x => match x with
                      | .inl (_, fs) => fs.all (fun o => match o with
                        | some q => decide (q < 42)
                        | none => true)
                      | .inr _ => true) = true := by decide +kernel
                    have h4 := List.all_eq_true.mp h3 _ (List.mem_of_getElem? hat)
                    have h5 := List.all_eq_true.mp h4 _ (List.mem_of_getElem? hq)
                    exact of_decide_eq_true h5
                  split at hv
                  · rename_i q hq
                    cases hv
                    rw [hq]
                    refine ⟨rfl, ?_⟩
                    show some (Value.ref (b + q)) = some (Value.ref (za_ad b bs bk q))
                    rw [za_ad_lt (hall q hq)]
                  · rename_i hq
                    cases hv
                    rw [hq]
                    refine ⟨rfl, ?_⟩
                    show some (Value.int (M h (0 + k))) = some (Value.int (M h k))
                    rw [Nat.zero_add]
                  · cases hv
                refine ⟨List.forall_mem_cons.mpr ⟨hcat.1, (List.forall_mem_cons.mp hst).2⟩, h100, h101, fun kk => ?_⟩
                have hg := va_get (rest := st0.map (za_cv b bs bk)) (ref := (T k).1) hx hb hts hin hown hK hP h he hcl k hkN (hts _ hfl) (fun _ q => q) hcat.2 (za_w hdg hk rfl (by decide)) (kk H locs lv hP hS hlv)
                rw [← za_ad_lt (b := b) (bs := bs) (bk := bk) hlt] at hg
                exact hg
              · cases hv
            · cases hv
          · cases hd
        · cases hd
      · cases hd
    · cases hd
  -- putfield
  · split at hd
    · split at hd
      · rename_i ix _ x h st0 _ ci k hlk
        split at hd
        · rename_i hlt
          obtain ⟨hlt, hfi⟩ := hlt
          cases hd
          have hf := za_f_all _ (za_look_in hlk)
          obtain ⟨hc5, hkN, hfl⟩ := hf
          obtain ⟨C, T, N, ty, hcl, hin, hT, hNe, hty, hnm⟩ := za_clsin hc5
          dsimp only at hkN hfl
          rw [hNe] at hkN
          rw [hT] at hfl
          unfold za_fi at hfi
          split at hfi
          · rename_i cj fs hat
            simp only [Bool.and_eq_true, decide_eq_true_eq] at hfi
            obtain ⟨hcj, hfi⟩ := hfi
            subst hcj
            have hnone : fs[k]? = some none := by
              split at hfi
              · assumption
              · cases hfi
            have hcell := hat
            rw [za_at_lt hlt] at hcell
            obtain ⟨-, hlen, hint⟩ := za_obj hcell
            have hi2 := hint k hnone
            rw [hT] at hi2
            have he := za_W_get cI cZ b M hlt hat
            have hkl : k < (za_fvs b M h 0 fs).length := by
              have h6 : (za_fvs b M h 0 fs)[k]? = some (.int (M h (0 + k))) := by rw [za_fvs_at, hnone]; rfl
              exact (List.getElem?_eq_some_iff.mp h6).1
            refine ⟨(List.forall_mem_cons.mp (List.forall_mem_cons.mp hst).2).2, by rw [za_up_ne (show (100 : Nat) ≠ h from fun e => absurd hlt (by rw [← e]; decide))]; exact h100, by rw [za_up_ne (show (101 : Nat) ≠ h from fun e => absurd hlt (by rw [← e]; decide))]; exact h101, fun kk => ?_⟩
            have hg := va_put (rest := st1.map (za_cv b bs bk)) (ref := (T k).1) hx hb hts hin ty hty hnm hown hK hP hWD hS h he hcl k hkN (hts _ hfl) (fun _ q => q) hi2.2 (ty := .int) (v := .int x) hi2.1 rfl rfl hkl (za_w hdg hk rfl (by decide)) (fun H1 locs1 hP1 hD1 hS1 => kk H1 locs1 lv (by rw [za_W_set hcell (N := za_up M h k x) (fun q hq => za_up_ne hq) (by rw [za_fvs_set b M h k x fs hnone]; rfl)] at hP1; exact hP1) hS1 hlv)
            rw [← za_ad_lt (b := b) (bs := bs) (bk := bk) hlt] at hg
            exact hg
          · cases hfi
        · cases hd
      · cases hd
    · cases hd
  -- getstatic
  · split at hd
    · rename_i ix hix
      obtain ⟨ho1, rfl⟩ := hix
      cases hd
      refine ⟨List.forall_mem_cons.mpr ⟨rfl, hst⟩, h100, h101, fun kk => ?_⟩
      rw [ho1] at hown
      exact va_gets (ref := RX1) hx hb hZ hS hown (hts _ za_gs) (fun _ q => q) (za_w hdg hk rfl (by decide)) (kk H locs lv hP hS hlv)
    · cases hd
  -- iaload
  · split at hd
    · split at hd
      · rename_i j a st0 _ n hn
        split at hd
        · rename_i hin
          cases hd
          have hat := za_ln_ok hn
          refine ⟨List.forall_mem_cons.mpr ⟨rfl, (List.forall_mem_cons.mp (List.forall_mem_cons.mp hst).2).2⟩, h100, h101, fun kk => ?_⟩
          by_cases ha0 : a = 100
          · subst ha0
            have hnL : n = L := by
              have h7 : za_at L 100 = some (.inr (false, L)) := rfl
              rw [h7] at hat
              cases hat
              rfl
            subst hnL
            have q := kk H locs lv hP hS hlv
            rw [h100] at q
            exact va_sld (b := bs) (H0 := s.heap) (A := fun q => b ≤ q) hx hb hXs (by obtain ⟨scr, h8, -⟩ := hXs; exact (Array.getElem?_eq_some_iff.mp h8).1) (Nat.not_le.mpr hbs) hS hin (za_w hdg hk rfl (by decide)) q
          · by_cases ha1 : a = 101
            · subst ha1
              have hnL : n = 33 := by
                have h7 : za_at L 101 = some (.inr (false, 33)) := rfl
                rw [h7] at hat
                cases hat
                rfl
              subst hnL
              have q := kk H locs lv hP hS hlv
              rw [h101] at q
              exact va_sld (b := bk) (H0 := s.heap) (A := fun q => b ≤ q) hx hb hXk (by obtain ⟨scr, h8, -⟩ := hXk; exact (Array.getElem?_eq_some_iff.mp h8).1) (Nat.not_le.mpr hbk) hS hin (za_w hdg hk rfl (by decide)) q
            · have hlt := za_at_len hat ha0 ha1
              have he := za_W_get cI cZ b M hlt hat
              have hg := va_iald (rest := st0.map (za_cv b bs bk)) hx hb hK hP a 0 he rfl hin (za_w hdg hk rfl (by decide)) (kk H locs lv hP hS hlv)
              rw [← za_ad_lt (b := b) (bs := bs) (bk := bk) hlt] at hg
              exact hg
        · cases hd
      · cases hd
    · cases hd
  -- baload
  · split at hd
    · split at hd
      · rename_i j a st0 _ n hn
        split at hd
        · rename_i hin
          cases hd
          have hat := za_ln_ok hn
          refine ⟨List.forall_mem_cons.mpr ⟨rfl, (List.forall_mem_cons.mp (List.forall_mem_cons.mp hst).2).2⟩, h100, h101, fun kk => ?_⟩
          have ha0 : a ≠ 100 := by rintro rfl; cases hat
          have ha1 : a ≠ 101 := by rintro rfl; cases hat
          have hlt := za_at_len hat ha0 ha1
          have he := za_W_get cI cZ b M hlt hat
          have hg := va_zald (rest := st0.map (za_cv b bs bk)) hx hb hK hP a 1 he rfl hin (za_w hdg hk rfl (by decide)) (kk H locs lv hP hS hlv)
          rw [← za_ad_lt (b := b) (bs := bs) (bk := bk) hlt] at hg
          exact hg
        · cases hd
      · cases hd
    · cases hd
  -- iastore
  · split at hd
    · split at hd
      · rename_i x j a st0 _ n hn
        split at hd
        · rename_i hin
          obtain ⟨hin, hlt⟩ := hin
          cases hd
          have hat := za_ln_ok hn
          have hcell := hat
          rw [za_at_lt hlt] at hcell
          have he := za_W_get cI cZ b M hlt hat
          refine ⟨(List.forall_mem_cons.mp (List.forall_mem_cons.mp (List.forall_mem_cons.mp hst).2).2).2, by rw [za_up_ne (show (100 : Nat) ≠ a from fun e => absurd hlt (by rw [← e]; decide))]; exact h100, by rw [za_up_ne (show (101 : Nat) ≠ a from fun e => absurd hlt (by rw [← e]; decide))]; exact h101, fun kk => ?_⟩
          have hg := va_iast (rest := st1.map (za_cv b bs bk)) hx hb hK hP hWD hS a 0 he rfl (x := x) hin (za_w hdg hk rfl (by decide)) (fun H1 locs1 hP1 hD1 hS1 => kk H1 locs1 lv (by rw [za_W_set hcell (N := za_up M a j.toNatClampNeg x) (fun q hq => za_up_ne hq) (by simp only [za_cell, za_up, za_row_eq])] at hP1; exact hP1) hS1 hlv)
          rw [← za_ad_lt (b := b) (bs := bs) (bk := bk) hlt] at hg
          exact hg
        · cases hd
      · cases hd
    · cases hd
  -- bastore
  · split at hd
    · split at hd
      · rename_i x j a st0 _ n hn
        split at hd
        · rename_i hin
          obtain ⟨hin, hlt, hx01⟩ := hin
          cases hd
          have hat := za_ln_ok hn
          have hcell := hat
          rw [za_at_lt hlt] at hcell
          have he := za_W_get cI cZ b M hlt hat
          have hnar : vp_nar .boolean x = x := by rcases hx01 with rfl | rfl <;> decide +kernel
          refine ⟨(List.forall_mem_cons.mp (List.forall_mem_cons.mp (List.forall_mem_cons.mp hst).2).2).2, by rw [za_up_ne (show (100 : Nat) ≠ a from fun e => absurd hlt (by rw [← e]; decide))]; exact h100, by rw [za_up_ne (show (101 : Nat) ≠ a from fun e => absurd hlt (by rw [← e]; decide))]; exact h101, fun kk => ?_⟩
          have hg := va_zast (rest := st1.map (za_cv b bs bk)) hx hb hK hP hWD hS a 1 he rfl (x := x) hin (za_w hdg hk rfl (by decide)) (fun H1 locs1 hP1 hD1 hS1 => kk H1 locs1 lv (by rw [hnar, za_W_set hcell (N := za_up M a j.toNatClampNeg x) (fun q hq => za_up_ne hq) (by simp only [za_cell, za_up, za_row_eq])] at hP1; exact hP1) hS1 hlv)
          rw [← za_ad_lt (b := b) (bs := bs) (bk := bk) hlt] at hg
          exact hg
        · cases hd
      · cases hd
    · cases hd
  -- arraylength
  · split at hd
    · split at hd
      · rename_i a st0 _ n hn
        cases hd
        have hat := za_ln_ok hn
        refine ⟨List.forall_mem_cons.mpr ⟨rfl, (List.forall_mem_cons.mp hst).2⟩, h100, h101, fun kk => ?_⟩
        by_cases ha0 : a = 100
        · subst ha0
          have hnL : n = L := by
            have h7 : za_at L 100 = some (.inr (false, L)) := rfl
            rw [h7] at hat
            cases hat
            rfl
          subst hnL
          exact va_slen (b := bs) (H0 := s.heap) (A := fun q => b ≤ q) hx hb hXs (by obtain ⟨scr, h8, -⟩ := hXs; exact (Array.getElem?_eq_some_iff.mp h8).1) (Nat.not_le.mpr hbs) hS (za_w hdg hk rfl (by decide)) (kk H locs lv hP hS hlv)
        · by_cases ha1 : a = 101
          · subst ha1
            have hnL : n = 33 := by
              have h7 : za_at L 101 = some (.inr (false, 33)) := rfl
              rw [h7] at hat
              cases hat
              rfl
            subst hnL
            exact va_slen (b := bk) (H0 := s.heap) (A := fun q => b ≤ q) hx hb hXk (by obtain ⟨scr, h8, -⟩ := hXk; exact (Array.getElem?_eq_some_iff.mp h8).1) (Nat.not_le.mpr hbk) hS (za_w hdg hk rfl (by decide)) (kk H locs lv hP hS hlv)
          · have hlt := za_at_len hat ha0 ha1
            have he := za_W_get cI cZ b M hlt hat
            have hg := va_alen (rest := st0.map (za_cv b bs bk)) hx hb hK hP a 0 he (ty := .int) rfl rfl (za_w hdg hk rfl (by decide)) (kk H locs lv hP hS hlv)
            rw [← za_ad_lt (b := b) (bs := bs) (bk := bk) hlt] at hg
            exact hg
      · cases hd
    · cases hd
  -- invokevirtual
  · split at hd
    · unfold za_call at hd
      split at hd
      · split at hd
        · split at hd
          · cases hd
          · cases hd
        · cases hd
      · cases hd
    · cases hd
  -- invokestatic
  · split at hd
    · rename_i ix hix
      obtain ⟨ho0, rfl⟩ := hix
      split at hd
      · rename_i nn dp a sp a0
        split at hd
        · rename_i hg
          obtain ⟨g1, g2, g3, g4, g5, g6⟩ := hg
          split at hd
          · rename_i n0 n1 hn0 hn1
            split at hd
            · rename_i hle
              cases hd
              have hat0 := za_ln_ok hn0
              have hat1 := za_ln_ok hn1
              have he0 := za_W_get cI cZ b M g4 hat0
              have he1 := za_W_get cI cZ b M g5 hat1
              have hcell := hat1
              rw [za_at_lt g5] at hcell
              rw [ho0] at hown
              refine ⟨fun v hv => (by cases hv), by rw [za_row_ne (show (100 : Nat) ≠ a from fun e => absurd g5 (by rw [← e]; decide))]; exact h100, by rw [za_row_ne (show (101 : Nat) ≠ a from fun e => absurd g5 (by rw [← e]; decide))]; exact h101, fun kk => ?_⟩
              have h9 : nativeFrameWords "java/lang/System" "arraycopy" 5 = 7 := by decide +kernel
              have hg := va_copyi (rest := []) hx hb (hml.trans hlv.1.symm) hown (hts _ za_ac.1) (hts _ za_ac.2.1) (hts _ za_ac.2.2.1) (hts _ za_ac.2.2.2) hK hP hWD hS a0 a 0 0 he0 he1 rfl rfl rfl (sp := sp) (dp := dp) (n := nn) g1 g2 g3 hle.1 hle.2 (fun _ _ => rfl) (by omega) (by show 0 + (nativeFrameWords "java/lang/System" "arraycopy" 5 + 11) ≤ R.locals; omega) (za_w hdg hk rfl (by decide)) (fun H1 locs1 hP1 hD1 hS1 => kk H1 locs1 lv (by rw [za_W_set hcell (N := za_row M a (va_cpy (M a0) (M a) sp.toNatClampNeg dp.toNatClampNeg nn.toNatClampNeg)) (fun q hq => za_row_ne hq) (by simp only [za_cell, za_row_eq])] at hP1; exact hP1) hS1 hlv)
              rw [← za_ad_lt (b := b) (bs := bs) (bk := bk) g5, ← za_ad_lt (b := b) (bs := bs) (bk := bk) g4] at hg
              exact hg
            · cases hd
          · cases hd
        · cases hd
      · cases hd
    · split at hd
      · unfold za_call at hd
        split at hd
        · split at hd
          · split at hd
            · cases hd
            · cases hd
          · cases hd
        · cases hd
      · split at hd
        · unfold za_call at hd
          split at hd
          · split at hd
            · split at hd
              · cases hd
              · cases hd
            · cases hd
          · cases hd
        · cases hd
  -- ireturn
  · split at hd
    · split at hd
      · cases hd
      · cases hd
    · cases hd
  -- return
  · split at hd
    · split at hd
      · cases hd
      · cases hd
    · cases hd
  · cases hd
end ZN
