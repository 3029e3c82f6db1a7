/-! a claim, on both sides -/
theorem zLoop_in {t : zS → Nat × Nat × Option Nat} : ∀ (l : List zS) (m d : Nat) (la : Option Nat) (m' : Nat) (S : zS) (c d' : Nat) (la' : Option Nat), zLoop t l m d la = .inr (m', S, c, d', la') → S ∈ l
  | [], m, d, la, m', S, c, d', la', h => by simp [zLoop] at h
  | S0 :: l, m, d, la, m', S, c, d', la', h => by
    rw [zLoop] at h
    split at h
    · exact List.mem_cons_of_mem _ (zLoop_in l _ _ _ _ _ _ _ _ h)
    · injection h with h
      injection h with h1 h2
      injection h2 with h2 h3
      rw [← h2]
      exact List.mem_cons_self
theorem zAx_K {F v : Nat} : ∀ (dd k : Nat), dd + k ≤ 6 → (F = 3 → 1 ≤ k) → ∀ S, S ∈ zAx F v dd k → zK S
  | 0, k, _, _, S, h => by simp [zAx] at h
  | dd + 1, k, hk, h3, S, h => by
    rw [zAx, List.mem_append] at h
    rcases h with h | h
    · exact zSx_K (by omega) h3 _ _ S h
    · exact zAx_K dd (k + 1) (by omega) (fun _ => by omega) S h
/-- a start's form -/
theorem zF5 {x : Int32} (h : ¬ x < nI 1 ∧ ¬ nI 5 < x) : ∃ F, (1 ≤ F ∧ F ≤ 5) ∧ x = nI F := by
  have e1 : (nI 1).toInt = 1 := by decide
  have e5 : (nI 5).toInt = 5 := by decide
  rw [Int32.lt_iff_toInt_lt, Int32.lt_iff_toInt_lt, e1, e5] at h
  obtain ⟨F, h6, rfl⟩ := (zNd_iff (n := 6) (x := x) (by omega)).mp ⟨by omega, by omega⟩
  rw [nI_toInt (by omega)] at h
  exact ⟨F, ⟨by omega, by omega⟩, rfl⟩
section ZA
variable {L : Nat} {M : za_M} {p : Nat} {pr : Nat → zQ} {S : zS} {d : Nat} {la : Option Nat} {w : Nat}
set_option maxHeartbeats 4000000 in
theorem j_claim_ok (h : zJ M p pr S d la w) {v F n e A : Nat} {ke : Bool} (hv : v < 8) (hF : 1 ≤ F ∧ F ≤ 5) (hn : n ≤ 5) (he : e < 8) (hA : A ≤ 6) : zPair L M 67 [.ref 0, .int (nI v), .int (nI F), .int (nI n), .int (nI e), .int (nI A), .int (zB (ke = true)), .null, .null, .null, .null] 106 [.ref 26, .int (nI v), .int (nI F), .int (nI n), .int (nI e), .int (nI A), .int (zB (ke = true)), .null, .null, .null, .null, .null] := by
  obtain ⟨⟨hp, hq, hk⟩, ⟨hS, hS', hK⟩, ⟨h5, h9⟩, ⟨h6, h10⟩, ⟨hw, hw'⟩, hkd⟩ := id h
  have c1 : zNd 8 (nI v) := (zNd_iff (by omega)).mpr ⟨v, hv, rfl⟩
  have c4 : zNd 8 (nI e) := (zNd_iff (by omega)).mpr ⟨e, he, rfl⟩
  have c5 : zNd 7 (nI A) := (zNd_iff (by omega)).mpr ⟨A, by omega, rfl⟩
  have c5' : ¬ nI A < nI 0 ∧ ¬ nI 6 < nI A := (zNd_d (n := 6) (by omega)).mpr c5
  have c3 : zNd 6 (nI n) := (zNd_iff (by omega)).mpr ⟨n, by omega, rfl⟩
  have c3' : ¬ nI n < nI 0 ∧ ¬ nI 5 < nI n := (zNd_d (n := 5) (by omega)).mpr c3
  have c2 : ¬ nI F < nI 1 ∧ ¬ nI 5 < nI F := ⟨nI_nlt (by omega) (by omega), nI_nlt (by omega) (by omega)⟩
  have n1 : ¬ nI n < 0 := nI_pos (by omega)
  have n2 : nI n ≤ nI 5 := nI_le (by omega) (by omega)
  unfold zPair
  simp only [q67_0, q67_1, q67_4, q67_7, q67_9, q67_12, q67_15, q67_16, q67_19, q67_22, q67_24, q67_27, q67_30, q67_31, q67_32, q67_33, q67_36, q67_37, q67_38, q67_41, q67_42, q67_43, q67_44, q67_45, q67_48, q67_49, q67_51, q67_52, q67_55, t71, t73, s74, zB_t c1, zB_t c2, zB_t c4, zB_t c5, z10, if_false, n1, n2, if_true, s45 (show F ≤ 6 by omega)]
  have hk0 : F = 3 → 1 ≤ (if F = 3 then 1 else 0) := fun q => by rw [if_pos q]; exact Nat.le_refl 1
  have hk1 : (if F = 3 then 1 else 0) ≤ 1 := by split <;> omega
  generalize hK0 : (if F = 3 then 1 else 0) = k0 at hk0 hk1 ⊢
  have hI : zCI p M (za_up M 0 5 (nI 0)) d la := by
    refine ⟨?_, fun c x1 x2 => za_up_ne (by omega), fun c x1 => za_up_ne (by omega), za_up_same, ?_, ?_⟩
    · rw [za_up_oc (by decide)]; exact hp.1
    · rw [za_up_oc (by decide)]; exact h5
    · rw [za_up_oc (by decide)]; exact h6
  refine zT_mono (s67_size hk hp hv hF he hA hn (n + 1 - k0) k0 (by omega) hk0 0 d la _ _ _ hI) ?_
  intro r1 M1 hC
  have hge : ∀ c, 26 ≤ c → M1 c = M c := by
    intro c hc
    cases hx : zLoop (zTry p pr e A ke) (zAx F v (n + 1 - k0) k0) 0 d la with
    | inl x => obtain ⟨m, d', la'⟩ := x; rw [hx] at hC; exact hC.2.2.2.1 c hc
    | inr x => obtain ⟨m, S', cc, d', la'⟩ := x; rw [hx] at hC; exact hC.2.2.2.2.1 c hc
  have hq1 : zPM M1 p pr := by
    refine ⟨by rw [hge 26 (by omega)]; exact hq.1, fun i hi => ?_⟩
    rw [hge 30 (by omega), hge 31 (by omega), hge 32 (by omega), hge 33 (by omega)]
    exact hq.2 i hi
  simp only [q106_0, q106_1, q106_4, q106_7, q106_8, q106_9, q106_10, q106_13, q106_16, q106_17, q106_18, q106_19, q106_22, q106_25, q106_27, q106_30, q106_33, q106_35, q106_36, q106_38, q106_41, q106_44, q106_45, q106_46, q106_47, t78, s76, zB_t c1, zB_t c2, zB_t c3', zB_t c4, zB_t c5', z10, if_false]
  refine zT_mono s103 ?_
  rintro r2 M2 ⟨a1, a2, a3, a4, a5, a6⟩
  have hfin : zT L 106 70 [.ref 26, .int (nI v), .int (nI F), .int (nI n), .int (nI e), .int (nI A), .int (zB (ke = true)), .int (nI 0), .int (nI k0), .null, .null, .null] [] (za_up M2 26 11 (nI 0)) (fun r' M2 => r1 = r' ∧ zJE M M2) := by
    have hI2 : zMI M1 (za_up M2 26 11 (nI 0)) d la := by
      have u : ∀ c, c ≠ 26 → za_up M2 26 11 (nI 0) c = M2 c := fun c hc => za_up_ne hc
      have uf : ∀ f, f ≠ 11 → za_up M2 26 11 (nI 0) 26 f = M2 26 f := fun f hf => za_up_oi hf
      refine ⟨?_, fun c x1 x2 => ?_, ?_, ?_, ?_, ?_, za_up_same, ?_, ?_, fun c x1 => ?_, fun c x1 => ?_⟩
      · rw [uf 4 (by decide), a5 4 (by decide)]
      · rw [u c (by omega), a6 c (by omega) (by omega) (by omega) (by omega)]
      · rw [uf 19 (by decide), a1]
      · rw [u 39 (by decide)]; exact a2
      · rw [u 40 (by decide)]; exact a3
      · rw [u 41 (by decide)]; exact a4
      · rw [uf 9 (by decide), a5 9 (by decide), hge 26 (by omega)]; exact h9
      · rw [uf 10 (by decide), a5 10 (by decide), hge 26 (by omega)]; exact h10
      · rw [u c (by omega), a6 c (by omega) (by omega) (by omega) (by omega)]
      · rw [u c (by omega), a6 c (by omega) (by omega) (by omega) (by omega)]
    refine zT_mono (s106_size hk hq1 hv hF he hA hn (n + 1 - k0) k0 (by omega) hk0 0 d la _ _ _ _ hI2) ?_
    intro r3 M3 hE
    cases hx : zLoop (zTry p pr e A ke) (zAx F v (n + 1 - k0) k0) 0 d la with
    | inl x =>
      obtain ⟨m, d', la'⟩ := x
      rw [hx] at hC hE
      obtain ⟨rfl, x1, x2, x3, x4, x5, x6⟩ := hC
      obtain ⟨rfl, y1, y2, y3, y4, y5, y6, y7, y8, y9, y10, y11⟩ := hE
      refine ⟨rfl, by rw [y11 100 (by omega), hge 100 (by omega)], p, pr, S, d', la', 0, ⟨⟨?_, fun i hi => ?_⟩, ⟨?_, fun i hi => ?_⟩, hk⟩, ⟨zV_cg hS ?_ ?_ ?_ ?_, ⟨?_, fun i hi => ?_, fun j hj => ?_, fun j hj => ?_⟩, hK⟩, ⟨?_, y8⟩, ⟨?_, y9⟩, ⟨?_, y7⟩, ?_⟩
      · rw [y10 1 (by omega)]; exact x1
      · rw [y10 2 (by omega), y10 3 (by omega), y10 4 (by omega), y10 5 (by omega), x2 2 (by omega) (by omega), x2 3 (by omega) (by omega), x2 4 (by omega) (by omega), x2 5 (by omega) (by omega)]; exact hp.2 i hi
      · rw [y5]; exact hq1.1
      · rw [y6 30 (by omega) (by omega), y6 31 (by omega) (by omega), y6 32 (by omega) (by omega), y6 33 (by omega) (by omega)]; exact hq1.2 i hi
      · rw [y10 6 (by omega), x2 6 (by omega) (by omega)]
      · rw [y10 7 (by omega), x2 7 (by omega) (by omega)]
      · rw [y10 8 (by omega), x2 8 (by omega) (by omega)]
      · rw [y10 9 (by omega), x2 9 (by omega) (by omega)]
      · rw [y1, hge 26 (by omega)]; exact hS'.1
      · rw [y3 i (by have := hK.1; omega), hge 28 (by omega)]; exact hS'.2.1 i hi
      · rw [y2 j (by have := hK.1; omega), hge 27 (by omega)]; exact hS'.2.2.1 j hj
      · rw [y4 j hj, hge 29 (by omega)]; exact hS'.2.2.2 j hj
      · rw [y10 1 (by omega)]; exact x5
      · rw [y10 1 (by omega)]; exact x6
      · rw [y10 0 (by omega)]; exact x4
      · rw [y11 101 (by omega), hge 101 (by omega)]; exact hkd
    | inr x =>
      obtain ⟨m, S', cc, d', la'⟩ := x
      have hmem := zLoop_in _ _ _ _ _ _ _ _ _ hx
      have hK' : zK S' := zAx_K _ _ (by omega) hk0 S' hmem
      rw [hx] at hC hE
      obtain ⟨rfl, x0, x1, x2, x3, x4, x5, x6⟩ := hC
      obtain ⟨rfl, y0, y5, y6, y7, y8, y9, y10, y11⟩ := hE
      refine ⟨rfl, by rw [y11 100 (by omega), hge 100 (by omega)], p, pr, S', d', la', cc, ⟨⟨?_, fun i hi => ?_⟩, ⟨?_, fun i hi => ?_⟩, hk⟩, ⟨zV_cg x0 (y10 6 (by omega)) (y10 7 (by omega)) (y10 8 (by omega)) (y10 9 (by omega)), y0, hK'⟩, ⟨?_, y8⟩, ⟨?_, y9⟩, ⟨?_, y7⟩, ?_⟩
      · rw [y10 1 (by omega)]; exact x1
      · rw [y10 2 (by omega), y10 3 (by omega), y10 4 (by omega), y10 5 (by omega), x2 2 (by omega) (by omega), x2 3 (by omega) (by omega), x2 4 (by omega) (by omega), x2 5 (by omega) (by omega)]; exact hp.2 i hi
      · rw [y5]; exact hq1.1
      · rw [y6 30 (by omega) (by omega), y6 31 (by omega) (by omega), y6 32 (by omega) (by omega), y6 33 (by omega) (by omega)]; exact hq1.2 i hi
      · rw [y10 1 (by omega)]; exact x5
      · rw [y10 1 (by omega)]; exact x6
      · rw [y10 0 (by omega)]; exact x4
      · rw [y11 101 (by omega), hge 101 (by omega)]; exact hkd
  simp only [q106_50, q106_51, q106_52, q106_55, q106_56, q106_58, q106_59]
  rw [q106_60]
  by_cases h3 : F = 3
  · rw [if_pos h3] at hK0
    rw [if_pos (by rw [h3])]
    simp only [q106_63, q106_64, q106_67, q106_68]
    rw [← hK0] at hfin
    exact hfin
  · rw [if_neg h3] at hK0
    rw [if_neg (by rw [nI_eq (by omega) (by omega)]; exact h3)]
    simp only [q106_63, q106_64, q106_67, q106_68]
    rw [← hK0] at hfin
    exact hfin
theorem j_claim (h : zJ M p pr S d la w) {v F n e A : Int32} {ke : Bool} : zPair L M 67 [.ref 0, .int v, .int F, .int n, .int e, .int A, .int (zB (ke = true)), .null, .null, .null, .null] 106 [.ref 26, .int v, .int F, .int n, .int e, .int A, .int (zB (ke = true)), .null, .null, .null, .null, .null] := by
  by_cases c1 : zNd 8 v
  · by_cases c4 : zNd 8 e
    · by_cases c2 : ¬ F < nI 1 ∧ ¬ nI 5 < F
      · by_cases c5 : zNd 7 A
        · by_cases c3 : zNd 6 n
          · obtain ⟨v', hv, rfl⟩ := (zNd_iff (by omega)).mp c1
            obtain ⟨e', he, rfl⟩ := (zNd_iff (by omega)).mp c4
            obtain ⟨A', hA, rfl⟩ := (zNd_iff (by omega)).mp c5
            obtain ⟨n', hn, rfl⟩ := (zNd_iff (by omega)).mp c3
            obtain ⟨F', hF, rfl⟩ := zF5 c2
            exact j_claim_ok h hv hF (by omega) he (by omega)
          · have c3' : ¬ (¬ n < nI 0 ∧ ¬ nI 5 < n) := fun q => c3 ((zNd_d (n := 5) (by omega)).mp q)
            have hor : n < 0 ∨ ¬ n ≤ nI 5 := by
              rw [← zNd_b (n := 5) (by omega)] at c3
              by_cases q : n < 0
              · exact Or.inl q
              · right
                intro w
                exact c3 ⟨q, Int32.not_lt.mpr w⟩
            unfold zPair
            rcases hor with q | q
            · simp only [q67_0, q67_1, q67_4, q67_7, q67_9, q67_12, q67_15, q67_16, q67_19, q67_22, q67_24, q67_27, q67_30, q67_31, q67_32, q67_33, q67_36, q67_37, q67_38, q67_41, q67_42, t71, t73, s74, zB_t c1, zB_t c2, zB_t c4, zB_t c5, z10, if_false, q, if_true, q106_0, q106_1, q106_4, q106_7, q106_8, q106_9, q106_10, q106_13, q106_16, q106_17, q106_18, q106_19, q106_22, q106_25, q106_27, q106_30, q106_33, q106_35, q106_36, q106_38, q106_41, q106_44, q106_45, t78, s76, zB_f c3', z00]
              exact ⟨True.intro, rfl, _, _, _, _, _, _, h⟩
            · simp only [q67_0, q67_1, q67_4, q67_7, q67_9, q67_12, q67_15, q67_16, q67_19, q67_22, q67_24, q67_27, q67_30, q67_31, q67_32, q67_33, q67_36, q67_37, q67_38, q67_41, q67_42, t71, t73, s74, zB_t c1, zB_t c2, zB_t c4, zB_t c5, z10, if_false, q, if_true, ite_self, q106_0, q106_1, q106_4, q106_7, q106_8, q106_9, q106_10, q106_13, q106_16, q106_17, q106_18, q106_19, q106_22, q106_25, q106_27, q106_30, q106_33, q106_35, q106_36, q106_38, q106_41, q106_44, q106_45, t78, s76, zB_f c3', z00]
              exact ⟨True.intro, rfl, _, _, _, _, _, _, h⟩
        · have c5' : ¬ (¬ A < nI 0 ∧ ¬ nI 6 < A) := fun q => c5 ((zNd_d (n := 6) (by omega)).mp q)
          unfold zPair
          simp only [q67_0, q67_1, q67_4, q67_7, q67_9, q67_12, q67_15, q67_16, q67_19, q67_22, q67_24, q67_27, q67_30, q67_31, t71, t73, s74, zB_t c1, zB_t c2, zB_t c4, zB_f c5, z10, z00, if_false, if_true, q106_0, q106_1, q106_4, q106_7, q106_8, q106_9, q106_10, q106_13, q106_16, q106_17, q106_18, q106_19, q106_22, q106_25, q106_27, q106_30, q106_33, q106_35, q106_36, q106_38, q106_41, q106_44, q106_45, t78, s76, zB_f c5', ite_self]
          exact ⟨True.intro, rfl, _, _, _, _, _, _, h⟩
      · unfold zPair
        simp only [q67_0, q67_1, q67_4, q67_7, q67_9, q67_12, q67_15, q67_16, q67_19, q67_22, q67_24, q67_27, q67_30, q67_31, t71, t73, s74, zB_t c1, zB_f c2, zB_t c4, z10, z00, if_false, if_true, q106_0, q106_1, q106_4, q106_7, q106_8, q106_9, q106_10, q106_13, q106_16, q106_17, q106_18, q106_19, q106_22, q106_25, q106_27, q106_30, q106_33, q106_35, q106_36, q106_38, q106_41, q106_44, q106_45, t78, s76, ite_self]
        exact ⟨True.intro, rfl, _, _, _, _, _, _, h⟩
    · unfold zPair
      simp only [q67_0, q67_1, q67_4, q67_7, q67_9, q67_12, q67_15, q67_16, q67_19, q67_22, q67_24, q67_27, q67_30, q67_31, t71, t73, s74, zB_t c1, zB_f c4, z10, z00, if_false, if_true, q106_0, q106_1, q106_4, q106_7, q106_8, q106_9, q106_10, q106_13, q106_16, q106_17, q106_18, q106_19, q106_22, q106_25, q106_27, q106_30, q106_33, q106_35, q106_36, q106_38, q106_41, q106_44, q106_45, t78, s76, ite_self]
      exact ⟨True.intro, rfl, _, _, _, _, _, _, h⟩
  · unfold zPair
    simp only [q67_0, q67_1, q67_4, q67_7, q67_9, q67_12, q67_15, q67_16, q67_19, q67_22, q67_24, q67_27, q67_30, q67_31, t71, t73, s74, zB_f c1, z00, if_true, q106_0, q106_1, q106_4, q106_7, q106_8, q106_9, q106_10, q106_13, q106_16, q106_17, q106_18, q106_19, q106_22, q106_25, q106_27, q106_30, q106_33, q106_35, q106_36, q106_38, q106_41, q106_44, q106_45, t78, s76]
    exact ⟨True.intro, rfl, _, _, _, _, _, _, h⟩
end ZA
