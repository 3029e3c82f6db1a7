set_option maxHeartbeats 4000000 in
set_option maxRecDepth 100000 in
theorem c_X0_drop (l : Launch) (D : va_G) (cI cZ : ClassId) (h : Nat) : Met l yX0_drop wIX0_drop ({ frames := 0, cells := 0, slots := 0, locals := 0 }) (va_Pc [.ref h] (fun U => va_P D vwCl (zw0 cI cZ h (fun _ => 0)) U.heap ∧ va_K D vwCl [(cI, .int), (cZ, .boolean)] U)) (va_Qi (fun r (_ : Unit) => r = 0) (fun _ t => va_P D vwCl (zw0 cI cZ h (zFu 8)) t.heap) (fun q => h ≤ q)) 0 0 (fun q => h ≤ q) := by
  refine Met.ofW (cc := cX0_drop) (maxL := 3) (ret := (some .int)) (by decide) rfl ?_
  intro p e s m args below meth c s₁ B hml hv
  obtain ⟨rfl, hP, hK⟩ := hv
  have hx := B.exec
  have hb := B.bytes
  have hr := B.returns
  have hts0 := atoms_spec (ws := wIX0_drop) B.pre
  have hts : ∀ w ∈ za_tb, w.before _ s = true := fun w hw => hts0 w (List.mem_cons_of_mem _ hw)
  have hown : s.vm.findClass RX0 = some m.cls := findClass_of_methodNamed B.named
  have hlocks := B.notSynchronized
  have hl := lv_entry ([.ref h]) (n := 3) (Nat.le_of_ble_eq_true rfl)
  rw [lg_entry_eq]
  generalize (lg_sl ([.ref h]) ++ List.replicate (3 - (lg_sl ([.ref h])).length) Slot.unset).toArray = ls at hl ⊢
  have hl : lv_has ls 3 [(0, .ref h)] := hl
  have hI : zbI D h s (zw0 cI cZ h (fun _ => 0)) s.heap [] := ⟨hP, zwa0, va_S.rf⟩
  rw [zFu_0] at hI
  refine zb_Q (fun Q hQ => ?_)
  have loop : ∀ (d v : Nat), d + v = 8 → ∀ (H : Heap) (locs : List Loc) (ls : Array Slot), zbI D h s (zw0 cI cZ h (zFu v)) H locs → lv_has ls 3 [(2, .int (nI v)), (1, .int 0), (0, .ref h)] → W p l e ({ frames := 0, cells := 0, slots := 0, locals := 0 }) s m #[Value.ref h] below meth c H locs 0 0 Q (F0 m 12 ls []) := by
    intro d
    induction d with
    | zero =>
      intro v hv H locs ls hI hl
      have hv : v = 8 := by omega
      subst hv
      refine lv_iload_n hx hb dX0_drop_12 rfl (lv_at hl 0 rfl) ?_
      refine lv_bipush (v := 8) hx hb dX0_drop_13 (by decide) ?_
      refine lv_icmp_ge hx hb dX0_drop_15 (tgt := 32) rfl (fun _ => ?_) (fun q => absurd (show (8 : Int32) ≤ nI 8 by decide) q)
      refine lv_iload_n hx hb dX0_drop_32 rfl (lv_at hl 1 rfl) ?_
      subst hQ
      exact W.iret (v := 0) hx hb hr (fun t ht hW => ⟨⟨0, (), rfl, rfl, by subst ht; exact hI.1⟩, hI.2.2.F ht⟩) (fun q hq => hI.2.2.2.2 q hq) dX0_drop_33 hlocks
    | succ d ih =>
      intro v hv H locs ls hI hl
      refine lv_iload_n hx hb dX0_drop_12 rfl (lv_at hl 0 rfl) ?_
      refine lv_bipush (v := 8) hx hb dX0_drop_13 (by decide) ?_
      refine lv_icmp_ge hx hb dX0_drop_15 (tgt := 32) rfl (fun q => absurd q (nI_ge (a := v) (b := 8) (by omega) (by omega))) (fun _ => ?_)
      refine lv_aload_n hx hb dX0_drop_18 rfl (lv_at hl 2 rfl) ?_
      refine va_get (D := D) (ci := 0) (v := .ref (h + 3)) (C := RX0) (T := TX0) (N := 6) (ref := RX0) hx hb hts za_gX0 hown hK hI.1 0 rfl rfl 2 (by decide) (hts _ (za_mem 90 rfl rfl)) (fun _ q => q) rfl dX0_drop_19 ?_
      refine lv_iload_n hx hb dX0_drop_22 rfl (lv_at hl 0 rfl) ?_
      refine lv_ldc (v := zN) hx hb hown (hts (.constant RX0 36 zN) (za_mem 87 rfl rfl)) dX0_drop_23 ?_
      refine zb_iast hx hb hK hI 3 0 rfl rfl (vp_in_nI (by omega) (by omega)) dX0_drop_25 (fun H locs hI => ?_)
      rw [nI_clamp (show v < 2 ^ 31 by omega), zFu_up] at hI
      refine lv_iinc (v := nI (v + 1)) (k := 0) (lv' := [(2, .int (nI (v + 1))), (1, .int 0), (0, .ref h)]) hx hb dX0_drop_26 hl rfl (by rw [nI_succ]; rfl) (by decide) rfl (fun ls hl => ?_)
      refine lv_goto hx hb dX0_drop_29 (tgt := 12) rfl ?_
      exact ih (v + 1) (by omega) H locs ls hI hl
  refine lv_aload_n hx hb dX0_drop_0 rfl (lv_at hl 0 rfl) ?_
  refine va_get (D := D) (ci := 0) (v := .int 0) (C := RX0) (T := TX0) (N := 6) (ref := RX0) hx hb hts za_gX0 hown hK hI.1 0 rfl rfl 3 (by decide) (hts _ (za_mem 91 rfl rfl)) (fun _ q => q) rfl dX0_drop_1 ?_
  refine lv_istore_n (lv' := [(1, .int 0), (0, .ref h)]) hx hb dX0_drop_4 rfl hl (by decide) rfl (fun ls hl => ?_)
  refine lv_aload_n hx hb dX0_drop_5 rfl (lv_at hl 1 rfl) ?_
  refine lv_iconst (v := 0) hx hb dX0_drop_6 (by decide) ?_
  refine zb_put (v := .int 0) (ty := .int) hx hb hts za_gX0 tyX0 tyX0_ok nmX0 hown hK hI 0 rfl rfl 3 (by decide) (hts _ (za_mem 91 rfl rfl)) rfl (by decide +kernel) rfl rfl (Nat.le_of_ble_eq_true rfl) dX0_drop_7 (fun H locs hI => ?_)
  have hI : zbI D h s (zw0 cI cZ h (zFu 0)) H locs := hI
  refine lv_iconst (v := 0) hx hb dX0_drop_10 (by decide) ?_
  refine lv_istore_n (lv' := [(2, .int (nI 0)), (1, .int 0), (0, .ref h)]) hx hb dX0_drop_11 rfl hl (by decide) rfl (fun ls hl => ?_)
  exact loop 8 0 rfl H locs ls hI hl
