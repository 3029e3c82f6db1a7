/-! the constructors -/
def zFu (v : Nat) : Nat → Int32 := fun j => if j < v then zN else 0
theorem zFu_0 : (fun _ => 0) = zFu 0 := funext fun j => (if_neg (Nat.not_lt_zero j)).symm
theorem zFu_up (v : Nat) : upd (zFu v) v zN = zFu (v + 1) := by
  funext j
  unfold upd zFu
  by_cases h1 : j = v
  · rw [if_pos h1, if_pos (by omega)]
  · rw [if_neg h1]
    by_cases h2 : j < v
    · rw [if_pos h2, if_pos (by omega)]
    · rw [if_neg h2, if_neg (by omega)]
theorem zb_nil {h : Nat} : ∀ (i : Nat) (q : Nat × va_E), ([] : va_W)[i]? = some q → q.1 = h + i := by
  intro i q hq
  simp at hq
theorem zb_cons {h : Nat} {e : va_E} {ws : va_W} (hB : ∀ (i : Nat) (q : Nat × va_E), ws[i]? = some q → q.1 = h + 1 + i) : ∀ (i : Nat) (q : Nat × va_E), ((h, e) :: ws)[i]? = some q → q.1 = h + i := by
  intro i q hq
  cases i with
  | zero => cases hq; rfl
  | succ i => have := hB i q hq; omega
theorem zb_Q {p : Program} {l : Launch} {e : Env} {R : Room} {s : State} {m : MethodId} {args : Array Value} {below : List Frame} {meth : Method} {c : Code} {H : Heap} {locs : List Loc} {cells slots : Nat} {Q : State → Prop} {g : JFrame} (kk : ∀ Q' : State → Prop, Q' = Q → W p l e R s m args below meth c H locs cells slots Q' g) : W p l e R s m args below meth c H locs cells slots Q g := kk Q rfl
theorem zb_good {w : Cond} (h : w ∈ za_tb) : GoodIn za_tb (w :: za_tb) := by
  intro v hv
  have hm : v ∈ za_tb := by
    rcases List.mem_cons.mp hv with q | q
    · rw [q]; exact h
    · exact q
  exact ⟨hm, good_of_word (List.mem_filter.mp hm).2⟩
def zbP (D : va_G) (cI cZ : ClassId) (h ci : Nat) (fs : List Value) : Array Value → State → Prop := va_Pc [.ref h] (fun U => U.heap.size = h + 1 ∧ va_P D vwCl [(h, .inr (ci, fs))] U.heap ∧ va_K D vwCl [(cI, .int), (cZ, .boolean)] U)
theorem zbP_blind {D : va_G} {cI cZ : ClassId} {h ci : Nat} {fs : List Value} : FrameBlind (zbP D cI cZ h ci fs) := fun a U g mk q => ⟨q.1, q.2.1, q.2.2.1, va_K.moved (u := U) (U := U.calling g mk a) (Vm.Alike.refl U.vm) q.2.2.2⟩
def zw0 (cI cZ : ClassId) (h : Nat) (f : Nat → Int32) : va_W := [(h, .inr (0, [.ref (h + 1), .ref (h + 2), .ref (h + 3), .int 0, .ref (h + 4), .ref (h + 5)])), (h + 1, .inl (cI, 24, .inl (fun _ => 0))), (h + 2, .inl (cI, 48, .inl (fun _ => 0))), (h + 3, .inl (cI, 8, .inl f)), (h + 4, .inl (cI, 24, .inl (fun _ => 0))), (h + 5, .inl (cZ, 24, .inl (fun _ => 0)))]
def zw1 (cI cZ : ClassId) (h : Nat) : va_W := [(h, .inr (1, [.ref (h + 1), .ref (h + 2), .ref (h + 3), .ref (h + 4), .int 0, .int 0, .int zN])), (h + 1, .inl (cI, 60, .inl (fun _ => 0))), (h + 2, .inl (cI, 60, .inl (fun _ => 0))), (h + 3, .inl (cI, 60, .inl (fun _ => 0))), (h + 4, .inl (cI, 60, .inl (fun _ => 0)))]
def zw2 (cI cZ : ClassId) (h : Nat) : va_W := [(h, .inr (2, [.ref (h + 1)])), (h + 1, .inl (cI, 10, .inl (fun _ => 0)))]
def zw3 (cI cZ : ClassId) (h : Nat) : va_W := [(h, .inr (3, [.ref (h + 1), .ref (h + 6), .ref (h + 12), .ref (h + 14), .ref (h + 20), .int 0])), (h + 1, .inr (1, [.ref (h + 2), .ref (h + 3), .ref (h + 4), .ref (h + 5), .int 0, .int 0, .int zN])), (h + 2, .inl (cI, 60, .inl (fun _ => 0))), (h + 3, .inl (cI, 60, .inl (fun _ => 0))), (h + 4, .inl (cI, 60, .inl (fun _ => 0))), (h + 5, .inl (cI, 60, .inl (fun _ => 0))), (h + 6, .inr (0, [.ref (h + 7), .ref (h + 8), .ref (h + 9), .int 0, .ref (h + 10), .ref (h + 11)])), (h + 7, .inl (cI, 24, .inl (fun _ => 0))), (h + 8, .inl (cI, 48, .inl (fun _ => 0))), (h + 9, .inl (cI, 8, .inl (zFu 8))), (h + 10, .inl (cI, 24, .inl (fun _ => 0))), (h + 11, .inl (cZ, 24, .inl (fun _ => 0))), (h + 12, .inr (2, [.ref (h + 13)])), (h + 13, .inl (cI, 10, .inl (fun _ => 0))), (h + 14, .inr (0, [.ref (h + 15), .ref (h + 16), .ref (h + 17), .int 0, .ref (h + 18), .ref (h + 19)])), (h + 15, .inl (cI, 24, .inl (fun _ => 0))), (h + 16, .inl (cI, 48, .inl (fun _ => 0))), (h + 17, .inl (cI, 8, .inl (zFu 8))), (h + 18, .inl (cI, 24, .inl (fun _ => 0))), (h + 19, .inl (cZ, 24, .inl (fun _ => 0))), (h + 20, .inr (0, [.ref (h + 21), .ref (h + 22), .ref (h + 23), .int 0, .ref (h + 24), .ref (h + 25)])), (h + 21, .inl (cI, 24, .inl (fun _ => 0))), (h + 22, .inl (cI, 48, .inl (fun _ => 0))), (h + 23, .inl (cI, 8, .inl (zFu 8))), (h + 24, .inl (cI, 24, .inl (fun _ => 0))), (h + 25, .inl (cZ, 24, .inl (fun _ => 0)))]
def zw4 (cI cZ : ClassId) (h : Nat) : va_W := [(h, .inr (4, [.int 0, .ref (h + 1), .ref (h + 2), .ref (h + 3), .int 0, .ref (h + 4), .ref (h + 5), .ref (h + 6), .ref (h + 7), .int 0, .int zN, .int 0, .ref (h + 8), .ref (h + 9), .int 0, .ref (h + 10), .int 0, .ref (h + 11), .ref (h + 12), .int 0, .ref (h + 13), .ref (h + 14), .ref (h + 15)])), (h + 1, .inl (cI, 48, .inl (fun _ => 0))), (h + 2, .inl (cI, 24, .inl (fun _ => 0))), (h + 3, .inl (cI, 8, .inl (zFu 8))), (h + 4, .inl (cI, 60, .inl (fun _ => 0))), (h + 5, .inl (cI, 60, .inl (fun _ => 0))), (h + 6, .inl (cI, 60, .inl (fun _ => 0))), (h + 7, .inl (cI, 60, .inl (fun _ => 0))), (h + 8, .inl (cZ, 24, .inl (fun _ => 0))), (h + 9, .inl (cI, 24, .inl (fun _ => 0))), (h + 10, .inl (cI, 500, .inl (fun _ => 0))), (h + 11, .inl (cI, 12, .inl (fun _ => 0))), (h + 12, .inl (cI, 5, .inl (fun _ => 0))), (h + 13, .inl (cI, 48, .inl (fun _ => 0))), (h + 14, .inl (cI, 24, .inl (fun _ => 0))), (h + 15, .inl (cI, 8, .inl (fun _ => 0)))]
theorem zwa0 {cI cZ : ClassId} {h : Nat} {f : Nat → Int32} : ∀ (i : Nat) (q : Nat × va_E), (zw0 cI cZ h f)[i]? = some q → q.1 = h + i := zb_cons (zb_cons (zb_cons (zb_cons (zb_cons (zb_cons (zb_nil))))))
theorem zwa1 {cI cZ : ClassId} {h : Nat} : ∀ (i : Nat) (q : Nat × va_E), (zw1 cI cZ h)[i]? = some q → q.1 = h + i := zb_cons (zb_cons (zb_cons (zb_cons (zb_cons (zb_nil)))))
theorem zwa2 {cI cZ : ClassId} {h : Nat} : ∀ (i : Nat) (q : Nat × va_E), (zw2 cI cZ h)[i]? = some q → q.1 = h + i := zb_cons (zb_cons (zb_nil))
theorem zwa3 {cI cZ : ClassId} {h : Nat} : ∀ (i : Nat) (q : Nat × va_E), (zw3 cI cZ h)[i]? = some q → q.1 = h + i := zb_cons (zb_cons (zb_cons (zb_cons (zb_cons (zb_cons (zb_cons (zb_cons (zb_cons (zb_cons (zb_cons (zb_cons (zb_cons (zb_cons (zb_cons (zb_cons (zb_cons (zb_cons (zb_cons (zb_cons (zb_cons (zb_cons (zb_cons (zb_cons (zb_cons (zb_cons (zb_nil))))))))))))))))))))))))))
theorem zwa4 {cI cZ : ClassId} {h : Nat} : ∀ (i : Nat) (q : Nat × va_E), (zw4 cI cZ h)[i]? = some q → q.1 = h + i := zb_cons (zb_cons (zb_cons (zb_cons (zb_cons (zb_cons (zb_cons (zb_cons (zb_cons (zb_cons (zb_cons (zb_cons (zb_cons (zb_cons (zb_cons (zb_cons (zb_nil))))))))))))))))
theorem zfs0 : ∀ j, j < 6 → defaultValue (tyX0 j) = vp_V [.null, .null, .null, .int 0, .null, .null] j := fun j hj => match j, hj with | 0, _ => rfl | 1, _ => rfl | 2, _ => rfl | 3, _ => rfl | 4, _ => rfl | 5, _ => rfl | k + 6, h => absurd h (by omega)
theorem zfs1 : ∀ j, j < 7 → defaultValue (tyX1 j) = vp_V [.null, .null, .null, .null, .int 0, .int 0, .int 0] j := fun j hj => match j, hj with | 0, _ => rfl | 1, _ => rfl | 2, _ => rfl | 3, _ => rfl | 4, _ => rfl | 5, _ => rfl | 6, _ => rfl | k + 7, h => absurd h (by omega)
theorem zfs2 : ∀ j, j < 1 → defaultValue (tyX2 j) = vp_V [.null] j := fun j hj => match j, hj with | 0, _ => rfl | k + 1, h => absurd h (by omega)
theorem zfs3 : ∀ j, j < 6 → defaultValue (tyX3 j) = vp_V [.null, .null, .null, .null, .null, .int 0] j := fun j hj => match j, hj with | 0, _ => rfl | 1, _ => rfl | 2, _ => rfl | 3, _ => rfl | 4, _ => rfl | 5, _ => rfl | k + 6, h => absurd h (by omega)
theorem zfs4 : ∀ j, j < 23 → defaultValue (tyX4 j) = vp_V [.int 0, .null, .null, .null, .int 0, .null, .null, .null, .null, .int 0, .int 0, .int 0, .null, .null, .int 0, .null, .int 0, .null, .null, .int 0, .null, .null, .null] j := fun j hj => match j, hj with | 0, _ => rfl | 1, _ => rfl | 2, _ => rfl | 3, _ => rfl | 4, _ => rfl | 5, _ => rfl | 6, _ => rfl | 7, _ => rfl | 8, _ => rfl | 9, _ => rfl | 10, _ => rfl | 11, _ => rfl | 12, _ => rfl | 13, _ => rfl | 14, _ => rfl | 15, _ => rfl | 16, _ => rfl | 17, _ => rfl | 18, _ => rfl | 19, _ => rfl | 20, _ => rfl | 21, _ => rfl | 22, _ => rfl | k + 23, h => absurd h (by omega)
