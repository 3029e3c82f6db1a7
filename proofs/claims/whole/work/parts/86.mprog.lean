set_option maxHeartbeats 4000000 in
set_option maxRecDepth 100000 in
theorem c_X1_init (l : Launch) (D : va_G) (cI cZ : ClassId) (h : Nat) : Met l yX1_init wIX1_init ({ frames := 1, cells := 4, slots := 240, locals := 12 }) (zbP D cI cZ h 1 [.null, .null, .null, .null, .int 0, .int 0, .int 0]) (va_Qv (fun _ : Unit => True) (fun _ t => va_P D vwCl (zw1 cI cZ h) t.heap) (fun q => h ≤ q)) 4 240 (fun q => h ≤ q) := by
  refine Met.ofW (cc := cX1_init) (maxL := 1) (ret := none) (by decide) rfl ?_
  intro p e s m args below meth c s₁ B hml hv
  obtain ⟨rfl, hsz, hP, hK⟩ := hv
  have hx := B.exec
  have hb := B.bytes
  have hr := B.returns
  have hts0 := atoms_spec (ws := wIX1_init) B.pre
  have hts : ∀ w ∈ za_tb, w.before _ s = true := fun w hw => hts0 w (List.mem_cons_of_mem _ hw)
  have hown : s.vm.findClass RX1 = some m.cls := findClass_of_methodNamed B.named
  have hlocks := B.notSynchronized
  have hin : meth.name = "<init>" := (name_of_methodNamed B.named B.method).1
  have hA : h ≤ s.heap.size := by omega
  have hl := lv_entry ([.ref h]) (n := 1) (Nat.le_of_ble_eq_true rfl)
  rw [lg_entry_eq]
  generalize (lg_sl ([.ref h]) ++ List.replicate (1 - (lg_sl ([.ref h])).length) Slot.unset).toArray = ls at hl ⊢
  have hl : lv_has ls 1 [(0, .ref h)] := hl
  have hI : zbI D h s [(h, .inr (1, [.null, .null, .null, .null, .int 0, .int 0, .int 0]))] s.heap [] := ⟨hP, zb_one, va_S.rf⟩
  refine lv_aload_n hx hb dX1_init_0 rfl (lv_at hl 0 rfl) ?_
  refine W.objInit hx hb hown (hts (.methodLink RX1 3 objectInit) (za_mem 52 rfl rfl)) (hts (.instanceMethod objectInit) (za_mem 45 rfl rfl)) (hts (.code objectInit ⟨#[0xb1]⟩ 1 none) (za_mem 46 rfl rfl)) rfl (by rw [hml]; exact hl.1) rfl dX1_init_1 (Nat.le_of_ble_eq_true rfl) (Nat.le_of_ble_eq_true rfl) ?_
  refine W.eq (g2 := F0 m 4 ls []) rfl ?_
  refine lv_aload_n hx hb dX1_init_4 rfl (lv_at hl 0 rfl) ?_
  refine lv_bipush (v := 60) hx hb dX1_init_5 (by decide) ?_
  refine zb_newa (atype := .int) (ty := .int) (N' := 60) hx hb (hts (.arrayClass .int) (za_mem 76 rfl rfl)) rfl hK 0 rfl (Or.inl rfl) hI hA (by decide) (by decide) (by decide) (Nat.le_of_ble_eq_true rfl) (Nat.le_of_ble_eq_true rfl) dX1_init_7 1 rfl (by omega) (fun H hI => ?_)
  have hI : zbI D h s [(h, .inr (1, [.null, .null, .null, .null, .int 0, .int 0, .int 0])), (h + 1, .inl (cI, 60, .inl (fun _ => 0)))] H [] := hI
  refine W.widen (k := 1) (n := 60) (by decide) (by decide) ?_
  refine zb_putF (v := .ref (h + 1)) (ty := .array .int) hx hb hts za_gX1 tyX1 tyX1_ok nmX1 hown hK hI 0 rfl rfl 0 (by decide) (hts _ (za_mem 54 rfl rfl)) rfl hin rfl (by decide +kernel) rfl rfl (Nat.le_of_ble_eq_true rfl) dX1_init_9 (fun H locs hI => ?_)
  have hI : zbI D h s [(h, .inr (1, [.ref (h + 1), .null, .null, .null, .int 0, .int 0, .int 0])), (h + 1, .inl (cI, 60, .inl (fun _ => 0)))] H locs := hI
  refine lv_aload_n hx hb dX1_init_12 rfl (lv_at hl 0 rfl) ?_
  refine lv_bipush (v := 60) hx hb dX1_init_13 (by decide) ?_
  refine zb_newa (atype := .int) (ty := .int) (N' := 60) hx hb (hts (.arrayClass .int) (za_mem 76 rfl rfl)) rfl hK 0 rfl (Or.inl rfl) hI hA (by decide) (by decide) (by decide) (Nat.le_of_ble_eq_true rfl) (Nat.le_of_ble_eq_true rfl) dX1_init_15 2 rfl (by omega) (fun H hI => ?_)
  have hI : zbI D h s [(h, .inr (1, [.ref (h + 1), .null, .null, .null, .int 0, .int 0, .int 0])), (h + 1, .inl (cI, 60, .inl (fun _ => 0))), (h + 2, .inl (cI, 60, .inl (fun _ => 0)))] H locs := hI
  refine W.widen (k := 2) (n := 120) (by decide) (by decide) ?_
  refine zb_putF (v := .ref (h + 2)) (ty := .array .int) hx hb hts za_gX1 tyX1 tyX1_ok nmX1 hown hK hI 0 rfl rfl 1 (by decide) (hts _ (za_mem 55 rfl rfl)) rfl hin rfl (by decide +kernel) rfl rfl (Nat.le_of_ble_eq_true rfl) dX1_init_17 (fun H locs hI => ?_)
  have hI : zbI D h s [(h, .inr (1, [.ref (h + 1), .ref (h + 2), .null, .null, .int 0, .int 0, .int 0])), (h + 1, .inl (cI, 60, .inl (fun _ => 0))), (h + 2, .inl (cI, 60, .inl (fun _ => 0)))] H locs := hI
  refine lv_aload_n hx hb dX1_init_20 rfl (lv_at hl 0 rfl) ?_
  refine lv_bipush (v := 60) hx hb dX1_init_21 (by decide) ?_
  refine zb_newa (atype := .int) (ty := .int) (N' := 60) hx hb (hts (.arrayClass .int) (za_mem 76 rfl rfl)) rfl hK 0 rfl (Or.inl rfl) hI hA (by decide) (by decide) (by decide) (Nat.le_of_ble_eq_true rfl) (Nat.le_of_ble_eq_true rfl) dX1_init_23 3 rfl (by omega) (fun H hI => ?_)
  have hI : zbI D h s [(h, .inr (1, [.ref (h + 1), .ref (h + 2), .null, .null, .int 0, .int 0, .int 0])), (h + 1, .inl (cI, 60, .inl (fun _ => 0))), (h + 2, .inl (cI, 60, .inl (fun _ => 0))), (h + 3, .inl (cI, 60, .inl (fun _ => 0)))] H locs := hI
  refine W.widen (k := 3) (n := 180) (by decide) (by decide) ?_
  refine zb_putF (v := .ref (h + 3)) (ty := .array .int) hx hb hts za_gX1 tyX1 tyX1_ok nmX1 hown hK hI 0 rfl rfl 2 (by decide) (hts _ (za_mem 56 rfl rfl)) rfl hin rfl (by decide +kernel) rfl rfl (Nat.le_of_ble_eq_true rfl) dX1_init_25 (fun H locs hI => ?_)
  have hI : zbI D h s [(h, .inr (1, [.ref (h + 1), .ref (h + 2), .ref (h + 3), .null, .int 0, .int 0, .int 0])), (h + 1, .inl (cI, 60, .inl (fun _ => 0))), (h + 2, .inl (cI, 60, .inl (fun _ => 0))), (h + 3, .inl (cI, 60, .inl (fun _ => 0)))] H locs := hI
  refine lv_aload_n hx hb dX1_init_28 rfl (lv_at hl 0 rfl) ?_
  refine lv_bipush (v := 60) hx hb dX1_init_29 (by decide) ?_
  refine zb_newa (atype := .int) (ty := .int) (N' := 60) hx hb (hts (.arrayClass .int) (za_mem 76 rfl rfl)) rfl hK 0 rfl (Or.inl rfl) hI hA (by decide) (by decide) (by decide) (Nat.le_of_ble_eq_true rfl) (Nat.le_of_ble_eq_true rfl) dX1_init_31 4 rfl (by omega) (fun H hI => ?_)
  have hI : zbI D h s [(h, .inr (1, [.ref (h + 1), .ref (h + 2), .ref (h + 3), .null, .int 0, .int 0, .int 0])), (h + 1, .inl (cI, 60, .inl (fun _ => 0))), (h + 2, .inl (cI, 60, .inl (fun _ => 0))), (h + 3, .inl (cI, 60, .inl (fun _ => 0))), (h + 4, .inl (cI, 60, .inl (fun _ => 0)))] H locs := hI
  refine W.widen (k := 4) (n := 240) (by decide) (by decide) ?_
  refine zb_putF (v := .ref (h + 4)) (ty := .array .int) hx hb hts za_gX1 tyX1 tyX1_ok nmX1 hown hK hI 0 rfl rfl 3 (by decide) (hts _ (za_mem 57 rfl rfl)) rfl hin rfl (by decide +kernel) rfl rfl (Nat.le_of_ble_eq_true rfl) dX1_init_33 (fun H locs hI => ?_)
  have hI : zbI D h s [(h, .inr (1, [.ref (h + 1), .ref (h + 2), .ref (h + 3), .ref (h + 4), .int 0, .int 0, .int 0])), (h + 1, .inl (cI, 60, .inl (fun _ => 0))), (h + 2, .inl (cI, 60, .inl (fun _ => 0))), (h + 3, .inl (cI, 60, .inl (fun _ => 0))), (h + 4, .inl (cI, 60, .inl (fun _ => 0)))] H locs := hI
  refine lv_aload_n hx hb dX1_init_36 rfl (lv_at hl 0 rfl) ?_
  refine lv_iconst (v := 0) hx hb dX1_init_37 (by decide) ?_
  refine zb_put (v := .int 0) (ty := .int) hx hb hts za_gX1 tyX1 tyX1_ok nmX1 hown hK hI 0 rfl rfl 4 (by decide) (hts _ (za_mem 58 rfl rfl)) rfl (by decide +kernel) rfl rfl (Nat.le_of_ble_eq_true rfl) dX1_init_38 (fun H locs hI => ?_)
  have hI : zbI D h s [(h, .inr (1, [.ref (h + 1), .ref (h + 2), .ref (h + 3), .ref (h + 4), .int 0, .int 0, .int 0])), (h + 1, .inl (cI, 60, .inl (fun _ => 0))), (h + 2, .inl (cI, 60, .inl (fun _ => 0))), (h + 3, .inl (cI, 60, .inl (fun _ => 0))), (h + 4, .inl (cI, 60, .inl (fun _ => 0)))] H locs := hI
  refine lv_aload_n hx hb dX1_init_41 rfl (lv_at hl 0 rfl) ?_
  refine lv_iconst (v := 0) hx hb dX1_init_42 (by decide) ?_
  refine zb_put (v := .int 0) (ty := .int) hx hb hts za_gX1 tyX1 tyX1_ok nmX1 hown hK hI 0 rfl rfl 5 (by decide) (hts _ (za_mem 59 rfl rfl)) rfl (by decide +kernel) rfl rfl (Nat.le_of_ble_eq_true rfl) dX1_init_43 (fun H locs hI => ?_)
  have hI : zbI D h s [(h, .inr (1, [.ref (h + 1), .ref (h + 2), .ref (h + 3), .ref (h + 4), .int 0, .int 0, .int 0])), (h + 1, .inl (cI, 60, .inl (fun _ => 0))), (h + 2, .inl (cI, 60, .inl (fun _ => 0))), (h + 3, .inl (cI, 60, .inl (fun _ => 0))), (h + 4, .inl (cI, 60, .inl (fun _ => 0)))] H locs := hI
  refine lv_aload_n hx hb dX1_init_46 rfl (lv_at hl 0 rfl) ?_
  refine lv_ldc (v := zN) hx hb hown (hts (.constant RX1 31 zN) (za_mem 53 rfl rfl)) dX1_init_47 ?_
  refine zb_put (v := .int zN) (ty := .int) hx hb hts za_gX1 tyX1 tyX1_ok nmX1 hown hK hI 0 rfl rfl 6 (by decide) (hts _ (za_mem 60 rfl rfl)) rfl (by decide +kernel) rfl rfl (Nat.le_of_ble_eq_true rfl) dX1_init_49 (fun H locs hI => ?_)
  have hI : zbI D h s [(h, .inr (1, [.ref (h + 1), .ref (h + 2), .ref (h + 3), .ref (h + 4), .int 0, .int 0, .int zN])), (h + 1, .inl (cI, 60, .inl (fun _ => 0))), (h + 2, .inl (cI, 60, .inl (fun _ => 0))), (h + 3, .inl (cI, 60, .inl (fun _ => 0))), (h + 4, .inl (cI, 60, .inl (fun _ => 0)))] H locs := hI
  exact W.vret hx hb hr (fun t ht hW => ⟨⟨(), rfl, trivial, by subst ht; exact hI.1⟩, hI.2.2.F ht⟩) (fun q hq => hI.2.2.2.2 q hq) dX1_init_52 hlocks
set_option maxHeartbeats 4000000 in
set_option maxRecDepth 100000 in
theorem c_X2_init (l : Launch) (D : va_G) (cI cZ : ClassId) (h : Nat) : Met l yX2_init wIX2_init ({ frames := 1, cells := 1, slots := 10, locals := 12 }) (zbP D cI cZ h 2 [.null]) (va_Qv (fun _ : Unit => True) (fun _ t => va_P D vwCl (zw2 cI cZ h) t.heap) (fun q => h ≤ q)) 1 10 (fun q => h ≤ q) := by
  refine Met.ofW (cc := cX2_init) (maxL := 1) (ret := none) (by decide) rfl ?_
  intro p e s m args below meth c s₁ B hml hv
  obtain ⟨rfl, hsz, hP, hK⟩ := hv
  have hx := B.exec
  have hb := B.bytes
  have hr := B.returns
  have hts0 := atoms_spec (ws := wIX2_init) B.pre
  have hts : ∀ w ∈ za_tb, w.before _ s = true := fun w hw => hts0 w (List.mem_cons_of_mem _ hw)
  have hown : s.vm.findClass RX2 = some m.cls := findClass_of_methodNamed B.named
  have hlocks := B.notSynchronized
  have hin : meth.name = "<init>" := (name_of_methodNamed B.named B.method).1
  have hA : h ≤ s.heap.size := by omega
  have hl := lv_entry ([.ref h]) (n := 1) (Nat.le_of_ble_eq_true rfl)
  rw [lg_entry_eq]
  generalize (lg_sl ([.ref h]) ++ List.replicate (1 - (lg_sl ([.ref h])).length) Slot.unset).toArray = ls at hl ⊢
  have hl : lv_has ls 1 [(0, .ref h)] := hl
  have hI : zbI D h s [(h, .inr (2, [.null]))] s.heap [] := ⟨hP, zb_one, va_S.rf⟩
  refine lv_aload_n hx hb dX2_init_0 rfl (lv_at hl 0 rfl) ?_
  refine W.objInit hx hb hown (hts (.methodLink RX2 3 objectInit) (za_mem 113 rfl rfl)) (hts (.instanceMethod objectInit) (za_mem 45 rfl rfl)) (hts (.code objectInit ⟨#[0xb1]⟩ 1 none) (za_mem 46 rfl rfl)) rfl (by rw [hml]; exact hl.1) rfl dX2_init_1 (Nat.le_of_ble_eq_true rfl) (Nat.le_of_ble_eq_true rfl) ?_
  refine W.eq (g2 := F0 m 4 ls []) rfl ?_
  refine lv_aload_n hx hb dX2_init_4 rfl (lv_at hl 0 rfl) ?_
  refine lv_bipush (v := 10) hx hb dX2_init_5 (by decide) ?_
  refine zb_newa (atype := .int) (ty := .int) (N' := 10) hx hb (hts (.arrayClass .int) (za_mem 76 rfl rfl)) rfl hK 0 rfl (Or.inl rfl) hI hA (by decide) (by decide) (by decide) (Nat.le_of_ble_eq_true rfl) (Nat.le_of_ble_eq_true rfl) dX2_init_7 1 rfl (by omega) (fun H hI => ?_)
  have hI : zbI D h s [(h, .inr (2, [.null])), (h + 1, .inl (cI, 10, .inl (fun _ => 0)))] H [] := hI
  refine W.widen (k := 1) (n := 10) (by decide) (by decide) ?_
  refine zb_putF (v := .ref (h + 1)) (ty := .array .int) hx hb hts za_gX2 tyX2 tyX2_ok nmX2 hown hK hI 0 rfl rfl 0 (by decide) (hts _ (za_mem 114 rfl rfl)) rfl hin rfl (by decide +kernel) rfl rfl (Nat.le_of_ble_eq_true rfl) dX2_init_9 (fun H locs hI => ?_)
  have hI : zbI D h s [(h, .inr (2, [.ref (h + 1)])), (h + 1, .inl (cI, 10, .inl (fun _ => 0)))] H locs := hI
  exact W.vret hx hb hr (fun t ht hW => ⟨⟨(), rfl, trivial, by subst ht; exact hI.1⟩, hI.2.2.F ht⟩) (fun q hq => hI.2.2.2.2 q hq) dX2_init_12 hlocks
