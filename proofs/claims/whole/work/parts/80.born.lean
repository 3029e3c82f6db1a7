/-! constructors: their cells come one behind the other -/
def zbI (D : va_G) (h : Nat) (s : State) (ws : va_W) (H : Heap) (locs : List Loc) : Prop := va_P D vwCl ws H ∧ (∀ (i : Nat) (q : Nat × va_E), ws[i]? = some q → q.1 = h + i) ∧ va_S (fun q => h ≤ q) s.heap H locs
theorem zbI.D {D : va_G} {h : Nat} {s : State} {ws : va_W} {H : Heap} {locs : List Loc} (hI : zbI D h s ws H locs) : va_D (fun q => h ≤ q) ws := by
  refine ⟨fun i j p q hi hj e => ?_, fun k q hk => ?_⟩
  · have h1 := hI.2.1 i p hi
    have h2 := hI.2.1 j q hj
    omega
  · have h1 := hI.2.1 k q hk
    show h ≤ q.1
    omega
theorem zb_app {h n : Nat} {ws wd : va_W} (hA : ∀ (i : Nat) (q : Nat × va_E), ws[i]? = some q → q.1 = h + i) (hn : ws.length = n) (hB : ∀ (i : Nat) (q : Nat × va_E), wd[i]? = some q → q.1 = h + n + i) : ∀ (i : Nat) (q : Nat × va_E), (ws ++ wd)[i]? = some q → q.1 = h + i := by
  intro i q hq
  by_cases hi : i < n
  · rw [List.getElem?_append_left (by omega)] at hq
    exact hA i q hq
  · rw [List.getElem?_append_right (by omega)] at hq
    have := hB _ q hq
    omega
theorem zb_one {a : Nat} {e : va_E} : ∀ (i : Nat) (q : Nat × va_E), [(a, e)][i]? = some q → q.1 = a + i := by
  intro i q hq
  match i, hq with
  | 0, hq => cases hq; rfl
theorem zb_set {h : Nat} {ws : va_W} (hA : ∀ (i : Nat) (q : Nat × va_E), ws[i]? = some q → q.1 = h + i) {k a : Nat} {e e' : va_E} (hk : ws[k]? = some (a, e)) : ∀ (i : Nat) (q : Nat × va_E), (ws.set k (a, e'))[i]? = some q → q.1 = h + i := by
  intro i q hq
  by_cases hi : i = k
  · subst hi
    have hl := (List.getElem?_eq_some_iff.mp hk).1
    rw [List.getElem?_set_self hl] at hq
    cases hq
    exact hA i (a, e) hk
  · rw [List.getElem?_set_ne (Ne.symm hi)] at hq
    exact hA i q hq
theorem zb_addr {D : va_G} {h n : Nat} {ws : va_W} {H1 : Heap} {q : Nat} {e : va_E} (hA : ∀ (i : Nat) (q : Nat × va_E), ws[i]? = some q → q.1 = h + i) (hn : ws.length = n) (hP : va_P D vwCl (ws ++ [(q, e)]) H1) (hD : va_D (fun q => h ≤ q) (ws ++ [(q, e)])) (hsz : H1.size ≤ h + n + 1) : q = h + n := by
  have hq : (ws ++ [(q, e)])[n]? = some (q, e) := by
    rw [List.getElem?_append_right (by omega), hn, Nat.sub_self]
    rfl
  have h1 : h ≤ q := hD.2 n _ hq
  have h2 : q < H1.size := (hP n _ hq).lt
  by_cases h3 : q = h + n
  · exact h3
  · have h4 : q - h < ws.length := by omega
    have h5 : ws[q - h]? = some ws[q - h] := List.getElem?_eq_getElem h4
    have h6 := hA _ _ h5
    have h7 := hD.1 (q - h) n (ws[q - h]) (q, e) (by rw [List.getElem?_append_left h4]; exact h5) hq (by show ws[q - h].1 = q; omega)
    omega
section ZB
variable {p : Program} {l : Launch} {e : Env} {R : Room} {s : State} {m : MethodId} {args : Array Value} {below : List Frame} {meth : Method} {c : Code} {H : Heap} {locs : List Loc} {cells slots : Nat} {Q : State → Prop} {cc : ByteArray} {pc : Nat} {ls : Array Slot} {rest : List Value} {D : va_G} {h : Nat} {ws : va_W} {tys : List (ClassId × FieldType)}
theorem zb_size {g : JFrame} (kk : H.size ≤ s.heap.size + cells → W p l e R s m args below meth c H locs cells slots Q g) : W p l e R s m args below meth c H locs cells slots Q g := fun T hT X => kk (by rw [← hT]; exact X.heapSize) T hT X
theorem zb_new (hx : p.tables.exec = Jvm.exec) (hb : c.code = cc) {own C : String} {T : u_T} {N ci index : Nat} {Ts : List Cond} (hts : ∀ w ∈ Ts, w.before args s = true) (hin : ∀ w ∈ u_ws C T N, w ∈ Ts) (ty : Nat → FieldType) (hty : ∀ k, k < N → parseFieldDescriptor (T k).2.2.1 = some (ty k)) (hown : s.vm.findClass own = some m.cls) (hcl : (Cond.classLink own index C).before args s = true) (hinst : (Cond.instantiable C N).before args s = true) (hini : (Cond.initialized C).before args s = true)
    (hK : va_K D vwCl tys s) (hI : zbI D h s ws H locs) (hA : h ≤ s.heap.size) (hc : vwCl[ci]? = some (C, T, N)) {fs : List Value} (hfs : ∀ j, j < N → defaultValue (ty j) = vp_V fs j) (hcells : cells + 1 ≤ R.cells) (hslots : slots + N ≤ R.slots) (hdg : decode cc pc = .ok (.new index, 3)) (n : Nat) (hn : ws.length = n) (hcnt : s.heap.size + cells = h + n)
    (kk : ∀ H1 : Heap, zbI D h s (ws ++ [(h + n, .inr (ci, fs))]) H1 locs → W p l e R s m args below meth c H1 locs (cells + 1) (slots + N) Q (F0 m (pc + 3) ls (.ref (h + n) :: rest))) : W p l e R s m args below meth c H locs cells slots Q (F0 m pc ls rest) := by
  refine va_new hx hb hts hin ty hty hown hcl hinst hini hK hI.1 hI.D hI.2.2 (fun q hq => Nat.le_trans hA hq) hc hfs hcells hslots hdg (fun q H1 hP hD hS => zb_size (fun hz => ?_))
  have e := zb_addr hI.2.1 hn hP hD (by omega)
  subst e
  exact kk H1 ⟨hP, zb_app hI.2.1 hn zb_one, hS⟩
theorem zb_newa (hx : p.tables.exec = Jvm.exec) (hb : c.code = cc) {atype : ArrayType} (harr : (Cond.arrayClass (newarray.typeOf atype)).before args s = true) {ty : FieldType} (hty : newarray.typeOf atype = ty) (hK : va_K D vwCl tys s) (t0 : Nat) {cX : ClassId} (ht : tys[t0]? = some (cX, ty)) (hp : ty = .int ∨ ty = .boolean) (hI : zbI D h s ws H locs) (hA : h ≤ s.heap.size)
    {n : Int32} {N' : Nat} (hn0 : ¬ n < 0) (hN : n.toNatClampNeg = N') (hbytes : N' * componentBytes ty ≤ 536870912) (hcells : cells + 1 ≤ R.cells) (hslots : slots + N' ≤ R.slots) (hdg : decode cc pc = .ok (.newarray atype, 2)) (k : Nat) (hn : ws.length = k) (hcnt : s.heap.size + cells = h + k)
    (kk : ∀ H1 : Heap, zbI D h s (ws ++ [(h + k, .inl (cX, N', .inl (fun _ => 0)))]) H1 locs → W p l e R s m args below meth c H1 locs (cells + 1) (slots + N') Q (F0 m (pc + 2) ls (.ref (h + k) :: rest))) : W p l e R s m args below meth c H locs cells slots Q (F0 m pc ls (.int n :: rest)) := by
  have ha : ∀ cA : ClassId, vp_cell cA (N', .inl (fun _ => 0)) = arrV cA N' (fun _ => defaultValue ty) := by
    intro cA
    rcases hp with rfl | rfl <;> rfl
  refine va_newa hx hb harr hty hK hI.1 hI.D hI.2.2 (fun q hq => Nat.le_trans hA hq) ha hn0 hN hbytes hcells hslots hdg (fun q cA H1 hK1 hP hD hS => zb_size (fun hz => ?_))
  have e := zb_addr hI.2.1 hn hP hD (by omega)
  subst e
  have h1 := (hK1.2 tys.length (cA, ty) (by rw [List.getElem?_append_right (Nat.le_refl _), Nat.sub_self]; rfl)).2
  have h2 := (hK.2 t0 (cX, ty) ht).2
  have h3 : cA = cX := by
    rcases hp with rfl | rfl
    · exact Option.some.inj (Eq.trans (Eq.symm h1) h2)
    · exact Option.some.inj (Eq.trans (Eq.symm h1) h2)
  subst h3
  exact kk H1 ⟨hP, zb_app hI.2.1 hn zb_one, hS⟩
theorem zb_put (hx : p.tables.exec = Jvm.exec) (hb : c.code = cc) {own C : String} {T : u_T} {N ci index : Nat} {Ts : List Cond} (hts : ∀ w ∈ Ts, w.before args s = true) (hin : ∀ w ∈ u_ws C T N, w ∈ Ts) (ty0 : Nat → FieldType) (hty : ∀ k, k < N → parseFieldDescriptor (T k).2.2.1 = some (ty0 k)) (hnm : ∀ a, a < N → ∀ b, b < N → a ≠ b → (T a).2.1 ≠ (T b).2.1) (hown : s.vm.findClass own = some m.cls) (hK : va_K D vwCl tys s) (hI : zbI D h s ws H locs) (q0 : Nat) {a : Nat} {fs : List Value} (he : ws[q0]? = some (a, .inr (ci, fs))) (hc : vwCl[ci]? = some (C, T, N)) (k : Nat) (hk : k < N) (hlink : (Cond.fieldLink own index (T k).1 (T k).2.1 (T k).2.2.1).before args s = true) (hfin : (T k).2.2.2 = false) {v : Value} {ty : FieldType} (hd : parseFieldDescriptor (T k).2.2.1 = some ty) (hn : narrow ty v = v) (hfit : fits ty v = true) (hl : k < fs.length)
    (hdg : decode cc pc = .ok (.putfield index, 3)) (kk : ∀ (H1 : Heap) (locs1 : List Loc), zbI D h s (ws.set q0 (a, .inr (ci, fs.set k v))) H1 locs1 → W p l e R s m args below meth c H1 locs1 cells slots Q (F0 m (pc + 3) ls rest)) : W p l e R s m args below meth c H locs cells slots Q (F0 m pc ls (v :: .ref a :: rest)) :=
  va_put hx hb hts hin ty0 hty hnm hown hK hI.1 hI.D hI.2.2 q0 he hc k hk hlink (fun _ q => q) hfin hd hn hfit hl hdg (fun H1 locs1 hP _ hS => kk H1 locs1 ⟨hP, zb_set hI.2.1 he, hS⟩)
theorem zb_putF (hx : p.tables.exec = Jvm.exec) (hb : c.code = cc) {own C : String} {T : u_T} {N ci index : Nat} {Ts : List Cond} (hts : ∀ w ∈ Ts, w.before args s = true) (hin : ∀ w ∈ u_ws C T N, w ∈ Ts) (ty0 : Nat → FieldType) (hty : ∀ k, k < N → parseFieldDescriptor (T k).2.2.1 = some (ty0 k)) (hnm : ∀ a, a < N → ∀ b, b < N → a ≠ b → (T a).2.1 ≠ (T b).2.1) (hown : s.vm.findClass own = some m.cls) (hK : va_K D vwCl tys s) (hI : zbI D h s ws H locs) (q0 : Nat) {a : Nat} {fs : List Value} (he : ws[q0]? = some (a, .inr (ci, fs))) (hc : vwCl[ci]? = some (C, T, N)) (k : Nat) (hk : k < N) (hlink : (Cond.fieldLink own index (T k).1 (T k).2.1 (T k).2.2.1).before args s = true) (hfin : (T k).2.2.2 = true) (hin2 : meth.name = "<init>") (hdecl : (T k).1 = own) {v : Value} {ty : FieldType} (hd : parseFieldDescriptor (T k).2.2.1 = some ty) (hn : narrow ty v = v) (hfit : fits ty v = true) (hl : k < fs.length)
    (hdg : decode cc pc = .ok (.putfield index, 3)) (kk : ∀ (H1 : Heap) (locs1 : List Loc), zbI D h s (ws.set q0 (a, .inr (ci, fs.set k v))) H1 locs1 → W p l e R s m args below meth c H1 locs1 cells slots Q (F0 m (pc + 3) ls rest)) : W p l e R s m args below meth c H locs cells slots Q (F0 m pc ls (v :: .ref a :: rest)) :=
  va_putF hx hb hts hin ty0 hty hnm hown hK hI.1 hI.D hI.2.2 q0 he hc k hk hlink (fun _ q => q) hfin hin2 hdecl hd hn hfit hl hdg (fun H1 locs1 hP _ hS => kk H1 locs1 ⟨hP, zb_set hI.2.1 he, hS⟩)
theorem zb_iast (hx : p.tables.exec = Jvm.exec) (hb : c.code = cc) (hK : va_K D vwCl tys s) (hI : zbI D h s ws H locs) (q0 t0 : Nat) {a : Nat} {cA : ClassId} {n : Nat} {f : Nat → Int32} (ha : ws[q0]? = some (a, .inl (cA, n, .inl f))) (ht : tys[t0]? = some (cA, .int)) {i x : Int32} (hin : vp_in i n) (hdg : decode cc pc = .ok (.iastore, 1))
    (kk : ∀ (H1 : Heap) (locs1 : List Loc), zbI D h s (ws.set q0 (a, .inl (cA, n, .inl (upd f i.toNatClampNeg x)))) H1 locs1 → W p l e R s m args below meth c H1 locs1 cells slots Q (F0 m (pc + 1) ls rest)) : W p l e R s m args below meth c H locs cells slots Q (F0 m pc ls (.int x :: .int i :: .ref a :: rest)) :=
  va_iast hx hb hK hI.1 hI.D hI.2.2 q0 t0 ha ht hin hdg (fun H1 locs1 hP _ hS => kk H1 locs1 ⟨hP, zb_set hI.2.1 ha, hS⟩)
/-- a new object's constructor is called -/
theorem zb_init {ws0 wd : va_W} {n mc ms : Nat} {e0 : va_E} {st0 : List Value} {av : Array Value} (hI : zbI D h s (ws0 ++ [(h + n, e0)]) H locs) (hn : ws0.length = n) (hcnt : s.heap.size + cells = h + n + 1) (hsub : ∀ (i : Nat) (q : Nat × va_E), wd[i]? = some q → q.1 = h + n + i)
    (hr : H.size = h + n + 1 → va_P D vwCl [(h + n, e0)] H → va_Run p l e R s m args below meth c H locs cells slots mc ms (F0 m pc ls st0) rest (va_Qv (fun _ : Unit => True) (fun _ t => va_P D vwCl wd t.heap) (fun q => h + n ≤ q) av) (fun q => h + n ≤ q))
    (kk : ∀ (H1 : Heap) (locs1 : List Loc), zbI D h s (ws0 ++ wd) H1 locs1 → W p l e R s m args below meth c H1 locs1 (cells + mc) (slots + ms) Q (F0 m (pc + 3) ls rest)) : W p l e R s m args below meth c H locs cells slots Q (F0 m pc ls st0) := by
  refine zb_size (fun hz => ?_)
  have hq : (ws0 ++ [(h + n, e0)])[n]? = some (h + n, e0) := by
    rw [List.getElem?_append_right (by omega), hn, Nat.sub_self]
    rfl
  have h2 : h + n < H.size := (hI.1 n _ hq).lt
  have h3 : va_P D vwCl [(h + n, e0)] H := by
    intro k q hk
    match k, hk with
    | 0, hk => cases hk; exact hI.1 n _ hq
  have h0 : ∀ (i : Nat) (q : Nat × va_E), ws0[i]? = some q → (ws0 ++ [(h + n, e0)])[i]? = some q := fun i q hi => by rw [List.getElem?_append_left (List.getElem?_eq_some_iff.mp hi).1]; exact hi
  refine va_callv (hr (by omega) h3) hI.2.2 (fun q _ hq => Nat.le_trans (Nat.le_add_right h n) hq) (fun q hq => Nat.le_trans (Nat.le_add_right h n) hq) (fun u t H1 locs1 ht hvm hw hB hz1 hk1 hS => ?_)
  rw [ht] at hB
  refine kk H1 locs1 ⟨va_P.app (va_P.kept (H := H) (fun k q hk => hI.1 k q (h0 k q hk)) (fun k q hk => ?_)) hB, zb_app (fun i q hi => hI.2.1 i q (h0 i q hi)) hn hsub, hS⟩
  have h5 := hI.2.1 k q (h0 k q hk)
  have h6 : k < n := by rw [← hn]; exact (List.getElem?_eq_some_iff.mp hk).1
  refine hk1 q.1 (by omega) (fun z => ?_)
  have z : h + n ≤ q.1 := z
  omega
end ZB
