set_option maxHeartbeats 4000000 in
set_option maxRecDepth 100000 in
theorem c_X0_init (l : Launch) (D : va_G) (cI cZ : ClassId) (h : Nat) : Met l yX0_init wIX0_init ({ frames := 1, cells := 5, slots := 128, locals := 22 }) (zbP D cI cZ h 0 [.null, .null, .null, .int 0, .null, .null]) (va_Qv (fun _ : Unit => True) (fun _ t => va_P D vwCl (zw0 cI cZ h (zFu 8)) t.heap) (fun q => h ≤ q)) 5 128 (fun q => h ≤ q) := by
  refine Met.ofW (cc := cX0_init) (maxL := 1) (ret := none) (by decide) rfl ?_
  intro p e s m args below meth c s₁ B hml hv
  obtain ⟨rfl, hsz, hP, hK⟩ := hv
  have hx := B.exec
  have hb := B.bytes
  have hr := B.returns
  have hts0 := atoms_spec (ws := wIX0_init) B.pre
  have hts : ∀ w ∈ za_tb, w.before _ s = true := fun w hw => hts0 w (List.mem_cons_of_mem _ hw)
  have hown : s.vm.findClass RX0 = some m.cls := findClass_of_methodNamed B.named
  have hlocks := B.notSynchronized
  have hin : meth.name = "<init>" := (name_of_methodNamed B.named B.method).1
  have hA : h ≤ s.heap.size := by omega
  have hl := lv_entry ([.ref h]) (n := 1) (Nat.le_of_ble_eq_true rfl)
  rw [lg_entry_eq]
  generalize (lg_sl ([.ref h]) ++ List.replicate (1 - (lg_sl ([.ref h])).length) Slot.unset).toArray = ls at hl ⊢
  have hl : lv_has ls 1 [(0, .ref h)] := hl
  have hI : zbI D h s [(h, .inr (0, [.null, .null, .null, .int 0, .null, .null]))] s.heap [] := ⟨hP, zb_one, va_S.rf⟩
  refine lv_aload_n hx hb dX0_init_0 rfl (lv_at hl 0 rfl) ?_
  refine W.objInit hx hb hown (hts (.methodLink RX0 3 objectInit) (za_mem 82 rfl rfl)) (hts (.instanceMethod objectInit) (za_mem 45 rfl rfl)) (hts (.code objectInit ⟨#[0xb1]⟩ 1 none) (za_mem 46 rfl rfl)) rfl (by rw [hml]; exact hl.1) rfl dX0_init_1 (Nat.le_of_ble_eq_true rfl) (Nat.le_of_ble_eq_true rfl) ?_
  refine W.eq (g2 := F0 m 4 ls []) rfl ?_
  refine lv_aload_n hx hb dX0_init_4 rfl (lv_at hl 0 rfl) ?_
  refine lv_bipush (v := 24) hx hb dX0_init_5 (by decide) ?_
  refine zb_newa (atype := .int) (ty := .int) (N' := 24) hx hb (hts (.arrayClass .int) (za_mem 76 rfl rfl)) rfl hK 0 rfl (Or.inl rfl) hI hA (by decide) (by decide) (by decide) (Nat.le_of_ble_eq_true rfl) (Nat.le_of_ble_eq_true rfl) dX0_init_7 1 rfl (by omega) (fun H hI => ?_)
  have hI : zbI D h s [(h, .inr (0, [.null, .null, .null, .int 0, .null, .null])), (h + 1, .inl (cI, 24, .inl (fun _ => 0)))] H [] := hI
  refine W.widen (k := 1) (n := 24) (by decide) (by decide) ?_
  refine zb_putF (v := .ref (h + 1)) (ty := .array .int) hx hb hts za_gX0 tyX0 tyX0_ok nmX0 hown hK hI 0 rfl rfl 0 (by decide) (hts _ (za_mem 88 rfl rfl)) rfl hin rfl (by decide +kernel) rfl rfl (Nat.le_of_ble_eq_true rfl) dX0_init_9 (fun H locs hI => ?_)
  have hI : zbI D h s [(h, .inr (0, [.ref (h + 1), .null, .null, .int 0, .null, .null])), (h + 1, .inl (cI, 24, .inl (fun _ => 0)))] H locs := hI
  refine lv_aload_n hx hb dX0_init_12 rfl (lv_at hl 0 rfl) ?_
  refine lv_bipush (v := 48) hx hb dX0_init_13 (by decide) ?_
  refine zb_newa (atype := .int) (ty := .int) (N' := 48) hx hb (hts (.arrayClass .int) (za_mem 76 rfl rfl)) rfl hK 0 rfl (Or.inl rfl) hI hA (by decide) (by decide) (by decide) (Nat.le_of_ble_eq_true rfl) (Nat.le_of_ble_eq_true rfl) dX0_init_15 2 rfl (by omega) (fun H hI => ?_)
  have hI : zbI D h s [(h, .inr (0, [.ref (h + 1), .null, .null, .int 0, .null, .null])), (h + 1, .inl (cI, 24, .inl (fun _ => 0))), (h + 2, .inl (cI, 48, .inl (fun _ => 0)))] H locs := hI
  refine W.widen (k := 2) (n := 72) (by decide) (by decide) ?_
  refine zb_putF (v := .ref (h + 2)) (ty := .array .int) hx hb hts za_gX0 tyX0 tyX0_ok nmX0 hown hK hI 0 rfl rfl 1 (by decide) (hts _ (za_mem 89 rfl rfl)) rfl hin rfl (by decide +kernel) rfl rfl (Nat.le_of_ble_eq_true rfl) dX0_init_17 (fun H locs hI => ?_)
  have hI : zbI D h s [(h, .inr (0, [.ref (h + 1), .ref (h + 2), .null, .int 0, .null, .null])), (h + 1, .inl (cI, 24, .inl (fun _ => 0))), (h + 2, .inl (cI, 48, .inl (fun _ => 0)))] H locs := hI
  refine lv_aload_n hx hb dX0_init_20 rfl (lv_at hl 0 rfl) ?_
  refine lv_bipush (v := 8) hx hb dX0_init_21 (by decide) ?_
  refine zb_newa (atype := .int) (ty := .int) (N' := 8) hx hb (hts (.arrayClass .int) (za_mem 76 rfl rfl)) rfl hK 0 rfl (Or.inl rfl) hI hA (by decide) (by decide) (by decide) (Nat.le_of_ble_eq_true rfl) (Nat.le_of_ble_eq_true rfl) dX0_init_23 3 rfl (by omega) (fun H hI => ?_)
  have hI : zbI D h s [(h, .inr (0, [.ref (h + 1), .ref (h + 2), .null, .int 0, .null, .null])), (h + 1, .inl (cI, 24, .inl (fun _ => 0))), (h + 2, .inl (cI, 48, .inl (fun _ => 0))), (h + 3, .inl (cI, 8, .inl (fun _ => 0)))] H locs := hI
  refine W.widen (k := 3) (n := 80) (by decide) (by decide) ?_
  refine zb_putF (v := .ref (h + 3)) (ty := .array .int) hx hb hts za_gX0 tyX0 tyX0_ok nmX0 hown hK hI 0 rfl rfl 2 (by decide) (hts _ (za_mem 90 rfl rfl)) rfl hin rfl (by decide +kernel) rfl rfl (Nat.le_of_ble_eq_true rfl) dX0_init_25 (fun H locs hI => ?_)
  have hI : zbI D h s [(h, .inr (0, [.ref (h + 1), .ref (h + 2), .ref (h + 3), .int 0, .null, .null])), (h + 1, .inl (cI, 24, .inl (fun _ => 0))), (h + 2, .inl (cI, 48, .inl (fun _ => 0))), (h + 3, .inl (cI, 8, .inl (fun _ => 0)))] H locs := hI
  refine lv_aload_n hx hb dX0_init_28 rfl (lv_at hl 0 rfl) ?_
  refine lv_bipush (v := 24) hx hb dX0_init_29 (by decide) ?_
  refine zb_newa (atype := .int) (ty := .int) (N' := 24) hx hb (hts (.arrayClass .int) (za_mem 76 rfl rfl)) rfl hK 0 rfl (Or.inl rfl) hI hA (by decide) (by decide) (by decide) (Nat.le_of_ble_eq_true rfl) (Nat.le_of_ble_eq_true rfl) dX0_init_31 4 rfl (by omega) (fun H hI => ?_)
  have hI : zbI D h s [(h, .inr (0, [.ref (h + 1), .ref (h + 2), .ref (h + 3), .int 0, .null, .null])), (h + 1, .inl (cI, 24, .inl (fun _ => 0))), (h + 2, .inl (cI, 48, .inl (fun _ => 0))), (h + 3, .inl (cI, 8, .inl (fun _ => 0))), (h + 4, .inl (cI, 24, .inl (fun _ => 0)))] H locs := hI
  refine W.widen (k := 4) (n := 104) (by decide) (by decide) ?_
  refine zb_putF (v := .ref (h + 4)) (ty := .array .int) hx hb hts za_gX0 tyX0 tyX0_ok nmX0 hown hK hI 0 rfl rfl 4 (by decide) (hts _ (za_mem 92 rfl rfl)) rfl hin rfl (by decide +kernel) rfl rfl (Nat.le_of_ble_eq_true rfl) dX0_init_33 (fun H locs hI => ?_)
  have hI : zbI D h s [(h, .inr (0, [.ref (h + 1), .ref (h + 2), .ref (h + 3), .int 0, .ref (h + 4), .null])), (h + 1, .inl (cI, 24, .inl (fun _ => 0))), (h + 2, .inl (cI, 48, .inl (fun _ => 0))), (h + 3, .inl (cI, 8, .inl (fun _ => 0))), (h + 4, .inl (cI, 24, .inl (fun _ => 0)))] H locs := hI
  refine lv_aload_n hx hb dX0_init_36 rfl (lv_at hl 0 rfl) ?_
  refine lv_bipush (v := 24) hx hb dX0_init_37 (by decide) ?_
  refine zb_newa (atype := .boolean) (ty := .boolean) (N' := 24) hx hb (hts (.arrayClass .boolean) (za_mem 107 rfl rfl)) rfl hK 1 rfl (Or.inr rfl) hI hA (by decide) (by decide) (by decide) (Nat.le_of_ble_eq_true rfl) (Nat.le_of_ble_eq_true rfl) dX0_init_39 5 rfl (by omega) (fun H hI => ?_)
  have hI : zbI D h s [(h, .inr (0, [.ref (h + 1), .ref (h + 2), .ref (h + 3), .int 0, .ref (h + 4), .null])), (h + 1, .inl (cI, 24, .inl (fun _ => 0))), (h + 2, .inl (cI, 48, .inl (fun _ => 0))), (h + 3, .inl (cI, 8, .inl (fun _ => 0))), (h + 4, .inl (cI, 24, .inl (fun _ => 0))), (h + 5, .inl (cZ, 24, .inl (fun _ => 0)))] H locs := hI
  refine W.widen (k := 5) (n := 128) (by decide) (by decide) ?_
  refine zb_putF (v := .ref (h + 5)) (ty := .array .boolean) hx hb hts za_gX0 tyX0 tyX0_ok nmX0 hown hK hI 0 rfl rfl 5 (by decide) (hts _ (za_mem 93 rfl rfl)) rfl hin rfl (by decide +kernel) rfl rfl (Nat.le_of_ble_eq_true rfl) dX0_init_41 (fun H locs hI => ?_)
  have hI : zbI D h s [(h, .inr (0, [.ref (h + 1), .ref (h + 2), .ref (h + 3), .int 0, .ref (h + 4), .ref (h + 5)])), (h + 1, .inl (cI, 24, .inl (fun _ => 0))), (h + 2, .inl (cI, 48, .inl (fun _ => 0))), (h + 3, .inl (cI, 8, .inl (fun _ => 0))), (h + 4, .inl (cI, 24, .inl (fun _ => 0))), (h + 5, .inl (cZ, 24, .inl (fun _ => 0)))] H locs := hI
  have hI : zbI D h s (zw0 cI cZ h (fun _ => 0)) H locs := hI
  refine lv_aload_n hx hb dX0_init_44 rfl (lv_at hl 0 rfl) ?_
  have hrcv := va_recv hK hI.1 (ci := 0) (q := (RX0, TX0, 6)) rfl (q0 := 0) rfl
  have hCW : CallW ({ frames := 1, cells := 5, slots := 128, locals := 22 }) s #[Value.ref h] RX0 RX0 28 yX0_drop cX0_drop 3 (some .int) wIX0_drop ({ frames := 0, cells := 0, slots := 0, locals := 0 }) 0 0 0 := ⟨callB_of 0 hts gIX0_drop rfl rfl rfl (hts (.initialized RX0) (za_mem 35 rfl rfl)) (hts (.methodLink RX0 28 yX0_drop) (za_mem 83 rfl rfl)) ⟨by decide +kernel, by decide +kernel, by decide +kernel⟩ ⟨Nat.le_of_ble_eq_true rfl, Nat.le_of_ble_eq_true rfl⟩, hts (.instanceMethod yX0_drop) (za_mem 84 rfl rfl), hts (.selects RX0 yX0_drop yX0_drop) (za_mem 85 rfl rfl)⟩
  refine va_calli (va_runV (As := []) (rest := []) (b := h) ⟨hx, hb, hml, hown, hts⟩ (c_X0_drop l D cI cZ h) hCW ⟨fun a U g mk q => ⟨q.1, q.2.1, va_K.moved (u := U) (U := U.calling g mk a) (Vm.Alike.refl U.vm) q.2.2⟩, hrcv, fun U hU hW => ⟨rfl, by rw [hU]; exact hI.1, va_K.moved hW.alike hK⟩⟩ rfl rfl hl.1 rfl (lv_room (Nat.le_of_ble_eq_true rfl)) dX0_init_45 ⟨Nat.le_of_ble_eq_true rfl, Nat.le_of_ble_eq_true rfl⟩) hI.2.2 (fun q _ hq => hq) (fun q hq => hq) (fun r u t H1 locs1 ht hvm hw hB hz1 hk1 hS => ?_)
  rw [ht] at hB
  have hI : zbI D h s (zw0 cI cZ h (zFu 8)) H1 locs1 := ⟨hB, zwa0, hS⟩
  refine lv_pop hx hb dX0_init_48 rfl ?_
  refine W.widen (k := 5) (n := 128) (by decide) (by decide) ?_
  exact W.vret hx hb hr (fun t ht hW => ⟨⟨(), rfl, trivial, by subst ht; exact hI.1⟩, hI.2.2.F ht⟩) (fun q hq => hI.2.2.2.2 q hq) dX0_init_49 hlocks
