/-! one step, a run: the class -/
section ZA
variable {L : Nat} {M : za_M} {Q : Int32 → za_M → Prop} {h : Nat}
def zOut (r : Nat ⊕ Nat) : Int32 := match r with
  | .inl t => nI t
  | .inr o => -1 - nI o
theorem zOut_l (t : Nat) : zOut (.inl t) = nI t := rfl
theorem zOut_r (o : Nat) : zOut (.inr o) = -1 - nI o := rfl
set_option maxHeartbeats 4000000 in
theorem s38 (hH : za_H h) {S : zS} {p i : Nat} {pr : Nat → zQ} (hp : zPC M p pr) (hk : zPK p pr) (hS : zC M h S) (hK : zK S) (hi : i < p) : zT L 38 0 [.ref 1, .int (nI i), .ref h, .null, .null, .null, .null] [] M (fun r M' => r = zOut (zStep S (pr i) i).1 ∧ zC M' h (zStep S (pr i) i).2 ∧ ∀ c, (c < h ∨ h + 4 ≤ c) → M' c = M c) := by
  obtain ⟨hp1, hp2⟩ := hp
  obtain ⟨hk1, hk2⟩ := hk
  obtain ⟨g1, g2, g3, g4⟩ := hp2 i hi
  have hq := hk2 i hi
  have e1 : ¬ nI i < 0 := nI_pos (by omega)
  have e2 : ¬ nI p ≤ nI i := nI_ge hi (by omega)
  have e3 : (nI i).toNatClampNeg = i := nI_clamp (by omega)
  have f2 : za_in L 2 false (nI i) := za_in_of (n := 60) rfl (by omega) (by omega)
  have f3 : za_in L 3 false (nI i) := za_in_of (n := 60) rfl (by omega) (by omega)
  have f4 : za_in L 4 false (nI i) := za_in_of (n := 60) rfl (by omega) (by omega)
  have f5 : za_in L 5 false (nI i) := za_in_of (n := 60) rfl (by omega) (by omega)
  obtain ⟨v1, v2, v3, v4⟩ := id hS
  have h24 : S.1 ≤ 24 := hK.1
  obtain ⟨o, ho, hm⟩ := hq
  generalize hpq : pr i = q at *
  obtain ⟨q1, a, b, c⟩ := q
  dsimp only at ho hm g1 g2 g3 g4
  subst ho
  have hfr : ∀ c : Nat, (c < h ∨ h + 4 ≤ c) → c ≠ h ∧ c ≠ h + 1 ∧ c ≠ h + 2 ∧ c ≠ h + 3 := fun c hc => ⟨by omega, by omega, by omega, by omega⟩
  have hnx : nI i + nI 1 = nI (i + 1) := nI_add i 1
  simp only [q38_0, q38_1, q38_2, q38_5, q38_8, q38_9, q38_12, q38_13, q38_14, q38_17, q38_18, q38_19, q38_20, q38_21, q38_24, q38_25, q38_26, q38_28, q38_29, q38_32, q38_33, q38_34, q38_36, q38_37, q38_38, q38_39, q38_41, q38_42, q38_45, q38_46, s35, zB_0, hp1, e1, e2, e3, f2, f3, f4, f5, g1, g2, g3, g4, hnx, not_false_eq_true, and_self, not_true_eq_false, if_false, true_and]
  match o, hm with
  | 0, ⟨v, hv, e⟩ =>
    subst e
    by_cases hn : S.1 = 24
    · rw [hn] at v1
      have hz : zStep S (nI 0, nI v, b, c) i = (.inr 3, S) := by
        unfold zStep
        rw [show ((nI 0, nI v, b, c) : zQ).1.toNatClampNeg = 0 from nI_clamp (by decide)]
        exact if_pos hn
      rw [hz]
      simp only [q38_47_0, q38_47_1, q38_47_2, q38_47_3, q38_47_4, q38_47_5, q38_47_6, q38_47_7, q38_47_8, q38_47_9, q38_100, q38_101, q38_102, q38_104, q38_106, q38_109, q38_110, q38_111, q38_112, q38_114, q38_117, q38_119, q38_120, q38_121, q38_122, q38_123, q38_125, q38_128, q38_131, q38_133, q38_134, q38_135, q38_136, q38_138, q38_140, q38_142, q38_145, q38_146, q38_147, q38_148, q38_150, q38_152, q38_154, q38_157, q38_158, q38_159, q38_160, q38_163, q38_165, q38_168, q38_170, q38_173, q38_175, q38_176, q38_177, q38_178, q38_181, q38_182, q38_184, q38_187, q38_190, q38_192, q38_195, q38_197, q38_198, q38_199, q38_200, q38_202, q38_204, q38_206, q38_209, q38_210, q38_211, q38_212, q38_213, q38_214, q38_216, q38_218, q38_221, q38_222, q38_223, q38_226, hH, s39_full hH v1]
      exact ⟨rfl, hS, fun _ _ => (by first | rfl | trivial)⟩
    · have hz : zStep S (nI 0, nI v, b, c) i = (.inl (i + 1), zS_hold (zS_add S b) v (some S.1)) := by
        unfold zStep
        rw [show ((nI 0, nI v, b, c) : zQ).1.toNatClampNeg = 0 from nI_clamp (by decide)]
        show (if S.1 = 24 then _ else _) = _
        rw [if_neg hn, nI_clamp (show v < 2 ^ 31 by omega)]
      rw [hz]
      simp only [q38_47_0, q38_47_1, q38_47_2, q38_47_3, q38_47_4, q38_47_5, q38_47_6, q38_47_7, q38_47_8, q38_47_9, q38_100, q38_101, q38_102, q38_104, q38_106, q38_109, q38_110, q38_111, q38_112, q38_114, q38_117, q38_119, q38_120, q38_121, q38_122, q38_123, q38_125, q38_128, q38_131, q38_133, q38_134, q38_135, q38_136, q38_138, q38_140, q38_142, q38_145, q38_146, q38_147, q38_148, q38_150, q38_152, q38_154, q38_157, q38_158, q38_159, q38_160, q38_163, q38_165, q38_168, q38_170, q38_173, q38_175, q38_176, q38_177, q38_178, q38_181, q38_182, q38_184, q38_187, q38_190, q38_192, q38_195, q38_197, q38_198, q38_199, q38_200, q38_202, q38_204, q38_206, q38_209, q38_210, q38_211, q38_212, q38_213, q38_214, q38_216, q38_218, q38_221, q38_222, q38_223, q38_226, hH, s39 hH v1 (show S.1 < 24 by omega) hv]
      refine ⟨rfl, zV_hold (zAp_C h) (zC_add hS) v (some S.1), fun c hc => ?_⟩
      obtain ⟨c1, c2, c3, c4⟩ := hfr c hc
      rw [za_up_ne c4, zAdd_ne c1 c2 c3]
  | 1, ⟨v, hv, e⟩ =>
    subst e
    have hz : zStep S (nI 1, nI v, b, c) i = (.inl (i + 1), zS_hold S v none) := by
      unfold zStep
      rw [show ((nI 1, nI v, b, c) : zQ).1.toNatClampNeg = 1 from nI_clamp (by decide)]
      show (_, zS_hold S (nI v).toNatClampNeg none) = _
      rw [nI_clamp (show v < 2 ^ 31 by omega)]
    rw [hz]
    simp only [q38_47_0, q38_47_1, q38_47_2, q38_47_3, q38_47_4, q38_47_5, q38_47_6, q38_47_7, q38_47_8, q38_47_9, q38_100, q38_101, q38_102, q38_104, q38_106, q38_109, q38_110, q38_111, q38_112, q38_114, q38_117, q38_119, q38_120, q38_121, q38_122, q38_123, q38_125, q38_128, q38_131, q38_133, q38_134, q38_135, q38_136, q38_138, q38_140, q38_142, q38_145, q38_146, q38_147, q38_148, q38_150, q38_152, q38_154, q38_157, q38_158, q38_159, q38_160, q38_163, q38_165, q38_168, q38_170, q38_173, q38_175, q38_176, q38_177, q38_178, q38_181, q38_182, q38_184, q38_187, q38_190, q38_192, q38_195, q38_197, q38_198, q38_199, q38_200, q38_202, q38_204, q38_206, q38_209, q38_210, q38_211, q38_212, q38_213, q38_214, q38_216, q38_218, q38_221, q38_222, q38_223, q38_226, hH, s12 hH hv]
    refine ⟨rfl, zV_hold (zAp_C h) hS v none, fun c hc => ?_⟩
    rw [za_up_ne (hfr c hc).2.2.2]
  | 2, ⟨⟨v, hv, e⟩, ⟨w, hw, e2⟩⟩ =>
    subst e e2
    have hz : zStep S (nI 2, nI v, nI w, c) i = (.inl (i + 1), zS_hold S v (S.2.2.2 w)) := by
      unfold zStep
      rw [show ((nI 2, nI v, nI w, c) : zQ).1.toNatClampNeg = 2 from nI_clamp (by decide)]
      show (_, zS_hold S (nI v).toNatClampNeg (S.2.2.2 (nI w).toNatClampNeg)) = _
      rw [nI_clamp (show v < 2 ^ 31 by omega), nI_clamp (show w < 2 ^ 31 by omega)]
    rw [hz]
    simp only [q38_47_0, q38_47_1, q38_47_2, q38_47_3, q38_47_4, q38_47_5, q38_47_6, q38_47_7, q38_47_8, q38_47_9, q38_100, q38_101, q38_102, q38_104, q38_106, q38_109, q38_110, q38_111, q38_112, q38_114, q38_117, q38_119, q38_120, q38_121, q38_122, q38_123, q38_125, q38_128, q38_131, q38_133, q38_134, q38_135, q38_136, q38_138, q38_140, q38_142, q38_145, q38_146, q38_147, q38_148, q38_150, q38_152, q38_154, q38_157, q38_158, q38_159, q38_160, q38_163, q38_165, q38_168, q38_170, q38_173, q38_175, q38_176, q38_177, q38_178, q38_181, q38_182, q38_184, q38_187, q38_190, q38_192, q38_195, q38_197, q38_198, q38_199, q38_200, q38_202, q38_204, q38_206, q38_209, q38_210, q38_211, q38_212, q38_213, q38_214, q38_216, q38_218, q38_221, q38_222, q38_223, q38_226, hH, s11 hH hw, s12 hH hv, v4 w hw]
    refine ⟨rfl, zV_hold (zAp_C h) hS v _, fun c hc => ?_⟩
    rw [za_up_ne (hfr c hc).2.2.2]
  | 3, ⟨⟨v, hv, e⟩, ⟨w, hw, e2⟩, ⟨f, hf, e3⟩⟩ =>
    subst e e2 e3
    have hz : zStep S (nI 3, nI v, nI w, nI f) i = (match S.2.2.2 w with
        | none => (.inr 1, S)
        | some k => (.inl (i + 1), zS_hold S v (S.2.2.1 (2 * k + f)))) := by
      unfold zStep
      rw [show ((nI 3, nI v, nI w, nI f) : zQ).1.toNatClampNeg = 3 from nI_clamp (by decide)]
      show ((match S.2.2.2 (nI w).toNatClampNeg with
        | none => (.inr 1, S)
        | some k => (.inl (i + 1), zS_hold S (nI v).toNatClampNeg (S.2.2.1 (2 * k + (nI f).toNatClampNeg)))) : (Nat ⊕ Nat) × zS) = _
      rw [nI_clamp (show v < 2 ^ 31 by omega), nI_clamp (show w < 2 ^ 31 by omega), nI_clamp (show f < 2 ^ 31 by omega)]
    rw [hz]
    cases hw2 : S.2.2.2 w with
    | none =>
      have hwN : M (h + 3) w = zN := by rw [v4 w hw, hw2]; rfl
      simp only [q38_47_0, q38_47_1, q38_47_2, q38_47_3, q38_47_4, q38_47_5, q38_47_6, q38_47_7, q38_47_8, q38_47_9, q38_100, q38_101, q38_102, q38_104, q38_106, q38_109, q38_110, q38_111, q38_112, q38_114, q38_117, q38_119, q38_120, q38_121, q38_122, q38_123, q38_125, q38_128, q38_131, q38_133, q38_134, q38_135, q38_136, q38_138, q38_140, q38_142, q38_145, q38_146, q38_147, q38_148, q38_150, q38_152, q38_154, q38_157, q38_158, q38_159, q38_160, q38_163, q38_165, q38_168, q38_170, q38_173, q38_175, q38_176, q38_177, q38_178, q38_181, q38_182, q38_184, q38_187, q38_190, q38_192, q38_195, q38_197, q38_198, q38_199, q38_200, q38_202, q38_204, q38_206, q38_209, q38_210, q38_211, q38_212, q38_213, q38_214, q38_216, q38_218, q38_221, q38_222, q38_223, q38_226, hH, s40_n hH hw hwN]
      exact ⟨rfl, hS, fun _ _ => (by first | rfl | trivial)⟩
    | some k =>
      have hkn := hK.2.2 w hw k hw2
      have hwN : M (h + 3) w = nI k := by rw [v4 w hw, hw2]; rfl
      simp only [q38_47_0, q38_47_1, q38_47_2, q38_47_3, q38_47_4, q38_47_5, q38_47_6, q38_47_7, q38_47_8, q38_47_9, q38_100, q38_101, q38_102, q38_104, q38_106, q38_109, q38_110, q38_111, q38_112, q38_114, q38_117, q38_119, q38_120, q38_121, q38_122, q38_123, q38_125, q38_128, q38_131, q38_133, q38_134, q38_135, q38_136, q38_138, q38_140, q38_142, q38_145, q38_146, q38_147, q38_148, q38_150, q38_152, q38_154, q38_157, q38_158, q38_159, q38_160, q38_163, q38_165, q38_168, q38_170, q38_173, q38_175, q38_176, q38_177, q38_178, q38_181, q38_182, q38_184, q38_187, q38_190, q38_192, q38_195, q38_197, q38_198, q38_199, q38_200, q38_202, q38_204, q38_206, q38_209, q38_210, q38_211, q38_212, q38_213, q38_214, q38_216, q38_218, q38_221, q38_222, q38_223, q38_226, hH, s40 hH hv hw hf v1 h24 hkn hwN, v3 (2 * k + f) (by omega)]
      refine ⟨rfl, zV_hold (zAp_C h) hS v _, fun c hc => ?_⟩
      rw [za_up_ne (hfr c hc).2.2.2]
  | 4, ⟨⟨v, hv, e⟩, ⟨f, hf, e2⟩, ⟨w, hw, e3⟩⟩ =>
    subst e e2 e3
    have hz : zStep S (nI 4, nI v, nI f, nI w) i = (match S.2.2.2 v with
        | none => (.inr 1, S)
        | some k => (.inl (i + 1), zS_link S (2 * k + f) (S.2.2.2 w))) := by
      unfold zStep
      rw [show ((nI 4, nI v, nI f, nI w) : zQ).1.toNatClampNeg = 4 from nI_clamp (by decide)]
      show ((match S.2.2.2 (nI v).toNatClampNeg with
        | none => (.inr 1, S)
        | some k => (.inl (i + 1), zS_link S (2 * k + (nI f).toNatClampNeg) (S.2.2.2 (nI w).toNatClampNeg))) : (Nat ⊕ Nat) × zS) = _
      rw [nI_clamp (show v < 2 ^ 31 by omega), nI_clamp (show w < 2 ^ 31 by omega), nI_clamp (show f < 2 ^ 31 by omega)]
    rw [hz]
    cases hw2 : S.2.2.2 v with
    | none =>
      have hwN : M (h + 3) v = zN := by rw [v4 v hv, hw2]; rfl
      simp only [q38_47_0, q38_47_1, q38_47_2, q38_47_3, q38_47_4, q38_47_5, q38_47_6, q38_47_7, q38_47_8, q38_47_9, q38_100, q38_101, q38_102, q38_104, q38_106, q38_109, q38_110, q38_111, q38_112, q38_114, q38_117, q38_119, q38_120, q38_121, q38_122, q38_123, q38_125, q38_128, q38_131, q38_133, q38_134, q38_135, q38_136, q38_138, q38_140, q38_142, q38_145, q38_146, q38_147, q38_148, q38_150, q38_152, q38_154, q38_157, q38_158, q38_159, q38_160, q38_163, q38_165, q38_168, q38_170, q38_173, q38_175, q38_176, q38_177, q38_178, q38_181, q38_182, q38_184, q38_187, q38_190, q38_192, q38_195, q38_197, q38_198, q38_199, q38_200, q38_202, q38_204, q38_206, q38_209, q38_210, q38_211, q38_212, q38_213, q38_214, q38_216, q38_218, q38_221, q38_222, q38_223, q38_226, hH, s41_n hH hv hwN]
      exact ⟨rfl, hS, fun _ _ => (by first | rfl | trivial)⟩
    | some k =>
      have hkn := hK.2.2 v hv k hw2
      have hwN : M (h + 3) v = nI k := by rw [v4 v hv, hw2]; rfl
      simp only [q38_47_0, q38_47_1, q38_47_2, q38_47_3, q38_47_4, q38_47_5, q38_47_6, q38_47_7, q38_47_8, q38_47_9, q38_100, q38_101, q38_102, q38_104, q38_106, q38_109, q38_110, q38_111, q38_112, q38_114, q38_117, q38_119, q38_120, q38_121, q38_122, q38_123, q38_125, q38_128, q38_131, q38_133, q38_134, q38_135, q38_136, q38_138, q38_140, q38_142, q38_145, q38_146, q38_147, q38_148, q38_150, q38_152, q38_154, q38_157, q38_158, q38_159, q38_160, q38_163, q38_165, q38_168, q38_170, q38_173, q38_175, q38_176, q38_177, q38_178, q38_181, q38_182, q38_184, q38_187, q38_190, q38_192, q38_195, q38_197, q38_198, q38_199, q38_200, q38_202, q38_204, q38_206, q38_209, q38_210, q38_211, q38_212, q38_213, q38_214, q38_216, q38_218, q38_221, q38_222, q38_223, q38_226, hH, s41 hH hv hw hf v1 h24 hkn hwN, v4 w hw]
      refine ⟨rfl, zV_link (zAp_C h) hS _ _, fun c hc => ?_⟩
      rw [za_up_ne (hfr c hc).2.2.1]
  | 5, ⟨⟨v, hv, e⟩, ⟨w, hw, e2⟩⟩ =>
    subst e e2
    have hz : zStep S (nI 5, nI v, nI w, c) i = (.inl (if S.2.2.2 v = none then w else i + 1), S) := by
      unfold zStep
      rw [show ((nI 5, nI v, nI w, c) : zQ).1.toNatClampNeg = 5 from nI_clamp (by decide)]
      show (Sum.inl (if S.2.2.2 (nI v).toNatClampNeg = none then (nI w).toNatClampNeg else i + 1), S) = _
      rw [nI_clamp (show v < 2 ^ 31 by omega), nI_clamp (show w < 2 ^ 31 by omega)]
    rw [hz]
    have hzn : zE (S.2.2.2 v) = zN ↔ S.2.2.2 v = none := zE_N (fun k hk => by have := hK.2.2 v hv k hk; omega)
    simp only [q38_47_0, q38_47_1, q38_47_2, q38_47_3, q38_47_4, q38_47_5, q38_47_6, q38_47_7, q38_47_8, q38_47_9, q38_100, q38_101, q38_102, q38_104, q38_106, q38_109, q38_110, q38_111, q38_112, q38_114, q38_117, q38_119, q38_120, q38_121, q38_122, q38_123, q38_125, q38_128, q38_131, q38_133, q38_134, q38_135, q38_136, q38_138, q38_140, q38_142, q38_145, q38_146, q38_147, q38_148, q38_150, q38_152, q38_154, q38_157, q38_158, q38_159, q38_160, q38_163, q38_165, q38_168, q38_170, q38_173, q38_175, q38_176, q38_177, q38_178, q38_181, q38_182, q38_184, q38_187, q38_190, q38_192, q38_195, q38_197, q38_198, q38_199, q38_200, q38_202, q38_204, q38_206, q38_209, q38_210, q38_211, q38_212, q38_213, q38_214, q38_216, q38_218, q38_221, q38_222, q38_223, q38_226, hH, s11 hH hv, v4 v hv, hzn]
    by_cases hnn : S.2.2.2 v = none
    · simp only [hnn, if_true]
      exact ⟨rfl, hS, fun _ _ => (by first | rfl | trivial)⟩
    · simp only [hnn, if_false]
      exact ⟨rfl, hS, fun _ _ => (by first | rfl | trivial)⟩
  | 6, ⟨⟨v, hv, e⟩, ⟨u, hu, e2⟩, ⟨w, hw, e3⟩⟩ =>
    subst e e2 e3
    have hz : zStep S (nI 6, nI v, nI u, nI w) i = (.inl (if S.2.2.2 v = S.2.2.2 u then w else i + 1), S) := by
      unfold zStep
      rw [show ((nI 6, nI v, nI u, nI w) : zQ).1.toNatClampNeg = 6 from nI_clamp (by decide)]
      show (Sum.inl (if S.2.2.2 (nI v).toNatClampNeg = S.2.2.2 (nI u).toNatClampNeg then (nI w).toNatClampNeg else i + 1), S) = _
      rw [nI_clamp (show v < 2 ^ 31 by omega), nI_clamp (show w < 2 ^ 31 by omega), nI_clamp (show u < 2 ^ 31 by omega)]
    rw [hz]
    have hzn : zE (S.2.2.2 v) = zE (S.2.2.2 u) ↔ S.2.2.2 v = S.2.2.2 u := zE_inj (fun k hk => by have := hK.2.2 v hv k hk; omega) (fun k hk => by have := hK.2.2 u hu k hk; omega)
    simp only [q38_47_0, q38_47_1, q38_47_2, q38_47_3, q38_47_4, q38_47_5, q38_47_6, q38_47_7, q38_47_8, q38_47_9, q38_100, q38_101, q38_102, q38_104, q38_106, q38_109, q38_110, q38_111, q38_112, q38_114, q38_117, q38_119, q38_120, q38_121, q38_122, q38_123, q38_125, q38_128, q38_131, q38_133, q38_134, q38_135, q38_136, q38_138, q38_140, q38_142, q38_145, q38_146, q38_147, q38_148, q38_150, q38_152, q38_154, q38_157, q38_158, q38_159, q38_160, q38_163, q38_165, q38_168, q38_170, q38_173, q38_175, q38_176, q38_177, q38_178, q38_181, q38_182, q38_184, q38_187, q38_190, q38_192, q38_195, q38_197, q38_198, q38_199, q38_200, q38_202, q38_204, q38_206, q38_209, q38_210, q38_211, q38_212, q38_213, q38_214, q38_216, q38_218, q38_221, q38_222, q38_223, q38_226, hH, s11 hH hv, s11 hH hu, v4 v hv, v4 u hu, hzn]
    by_cases hnn : S.2.2.2 v = S.2.2.2 u
    · simp only [hnn, if_true]
      exact ⟨rfl, hS, fun _ _ => (by first | rfl | trivial)⟩
    · simp only [hnn, if_false]
      exact ⟨rfl, hS, fun _ _ => (by first | rfl | trivial)⟩
  | 7, ⟨⟨v, hv, e⟩, ⟨u, hu, e2⟩, ⟨w, hw, e3⟩⟩ =>
    subst e e2 e3
    have hz : zStep S (nI 7, nI v, nI u, nI w) i = (match S.2.2.2 v with
        | none => (.inr 1, S)
        | some k => (match S.2.2.2 u with
          | none => (.inr 1, S)
          | some j => (.inl (if S.2.1 k < S.2.1 j then w else i + 1), S))) := by
      unfold zStep
      rw [show ((nI 7, nI v, nI u, nI w) : zQ).1.toNatClampNeg = 7 from nI_clamp (by decide)]
      show ((match S.2.2.2 (nI v).toNatClampNeg with
        | none => (.inr 1, S)
        | some k => (match S.2.2.2 (nI u).toNatClampNeg with
          | none => (.inr 1, S)
          | some j => (.inl (if S.2.1 k < S.2.1 j then (nI w).toNatClampNeg else i + 1), S))) : (Nat ⊕ Nat) × zS) = _
      rw [nI_clamp (show v < 2 ^ 31 by omega), nI_clamp (show w < 2 ^ 31 by omega), nI_clamp (show u < 2 ^ 31 by omega)]
    rw [hz]
    cases hw2 : S.2.2.2 v with
    | none =>
      have hwN : M (h + 3) v = zN := by rw [v4 v hv, hw2]; rfl
      simp only [q38_47_0, q38_47_1, q38_47_2, q38_47_3, q38_47_4, q38_47_5, q38_47_6, q38_47_7, q38_47_8, q38_47_9, q38_100, q38_101, q38_102, q38_104, q38_106, q38_109, q38_110, q38_111, q38_112, q38_114, q38_117, q38_119, q38_120, q38_121, q38_122, q38_123, q38_125, q38_128, q38_131, q38_133, q38_134, q38_135, q38_136, q38_138, q38_140, q38_142, q38_145, q38_146, q38_147, q38_148, q38_150, q38_152, q38_154, q38_157, q38_158, q38_159, q38_160, q38_163, q38_165, q38_168, q38_170, q38_173, q38_175, q38_176, q38_177, q38_178, q38_181, q38_182, q38_184, q38_187, q38_190, q38_192, q38_195, q38_197, q38_198, q38_199, q38_200, q38_202, q38_204, q38_206, q38_209, q38_210, q38_211, q38_212, q38_213, q38_214, q38_216, q38_218, q38_221, q38_222, q38_223, q38_226, hH, s42_n hH hv hu (Or.inl hwN)]
      exact ⟨rfl, hS, fun _ _ => (by first | rfl | trivial)⟩
    | some k =>
      have hkn := hK.2.2 v hv k hw2
      have hwN : M (h + 3) v = nI k := by rw [v4 v hv, hw2]; rfl
      cases hw3 : S.2.2.2 u with
      | none =>
        have hwM : M (h + 3) u = zN := by rw [v4 u hu, hw3]; rfl
        simp only [q38_47_0, q38_47_1, q38_47_2, q38_47_3, q38_47_4, q38_47_5, q38_47_6, q38_47_7, q38_47_8, q38_47_9, q38_100, q38_101, q38_102, q38_104, q38_106, q38_109, q38_110, q38_111, q38_112, q38_114, q38_117, q38_119, q38_120, q38_121, q38_122, q38_123, q38_125, q38_128, q38_131, q38_133, q38_134, q38_135, q38_136, q38_138, q38_140, q38_142, q38_145, q38_146, q38_147, q38_148, q38_150, q38_152, q38_154, q38_157, q38_158, q38_159, q38_160, q38_163, q38_165, q38_168, q38_170, q38_173, q38_175, q38_176, q38_177, q38_178, q38_181, q38_182, q38_184, q38_187, q38_190, q38_192, q38_195, q38_197, q38_198, q38_199, q38_200, q38_202, q38_204, q38_206, q38_209, q38_210, q38_211, q38_212, q38_213, q38_214, q38_216, q38_218, q38_221, q38_222, q38_223, q38_226, hH, s42_n hH hv hu (Or.inr hwM)]
        exact ⟨rfl, hS, fun _ _ => (by first | rfl | trivial)⟩
      | some j =>
        have hjn := hK.2.2 u hu j hw3
        have hwM : M (h + 3) u = nI j := by rw [v4 u hu, hw3]; rfl
        simp only [q38_47_0, q38_47_1, q38_47_2, q38_47_3, q38_47_4, q38_47_5, q38_47_6, q38_47_7, q38_47_8, q38_47_9, q38_100, q38_101, q38_102, q38_104, q38_106, q38_109, q38_110, q38_111, q38_112, q38_114, q38_117, q38_119, q38_120, q38_121, q38_122, q38_123, q38_125, q38_128, q38_131, q38_133, q38_134, q38_135, q38_136, q38_138, q38_140, q38_142, q38_145, q38_146, q38_147, q38_148, q38_150, q38_152, q38_154, q38_157, q38_158, q38_159, q38_160, q38_163, q38_165, q38_168, q38_170, q38_173, q38_175, q38_176, q38_177, q38_178, q38_181, q38_182, q38_184, q38_187, q38_190, q38_192, q38_195, q38_197, q38_198, q38_199, q38_200, q38_202, q38_204, q38_206, q38_209, q38_210, q38_211, q38_212, q38_213, q38_214, q38_216, q38_218, q38_221, q38_222, q38_223, q38_226, hH, s42 hH hv hu v1 h24 hkn hjn hwN hwM, v2 k hkn, v2 j hjn]
        refine ⟨?_, hS, fun _ _ => (by first | rfl | trivial)⟩
        by_cases hlt : S.2.1 k < S.2.1 j
        · simp only [hlt, if_true, zOut]
        · simp only [hlt, if_false, zOut]
  | 8, ⟨w, hw, e⟩ =>
    subst e
    have hz : zStep S (nI 8, nI w, b, c) i = (.inl w, S) := by
      unfold zStep
      rw [show ((nI 8, nI w, b, c) : zQ).1.toNatClampNeg = 8 from nI_clamp (by decide)]
      show (Sum.inl (nI w).toNatClampNeg, S) = _
      rw [nI_clamp (show w < 2 ^ 31 by omega)]
    rw [hz]
    simp only [q38_47_0, q38_47_1, q38_47_2, q38_47_3, q38_47_4, q38_47_5, q38_47_6, q38_47_7, q38_47_8, q38_47_9, q38_100, q38_101, q38_102, q38_104, q38_106, q38_109, q38_110, q38_111, q38_112, q38_114, q38_117, q38_119, q38_120, q38_121, q38_122, q38_123, q38_125, q38_128, q38_131, q38_133, q38_134, q38_135, q38_136, q38_138, q38_140, q38_142, q38_145, q38_146, q38_147, q38_148, q38_150, q38_152, q38_154, q38_157, q38_158, q38_159, q38_160, q38_163, q38_165, q38_168, q38_170, q38_173, q38_175, q38_176, q38_177, q38_178, q38_181, q38_182, q38_184, q38_187, q38_190, q38_192, q38_195, q38_197, q38_198, q38_199, q38_200, q38_202, q38_204, q38_206, q38_209, q38_210, q38_211, q38_212, q38_213, q38_214, q38_216, q38_218, q38_221, q38_222, q38_223, q38_226]
    exact ⟨rfl, hS, fun _ _ => (by first | rfl | trivial)⟩
  | 9, ⟨v, hv, e⟩ =>
    subst e
    have hz : zStep S (nI 9, nI v, b, c) i = (match S.2.2.2 v with
        | none => (.inr 1, S)
        | some k => (.inl (i + 1), zS_key S k b)) := by
      unfold zStep
      rw [show ((nI 9, nI v, b, c) : zQ).1.toNatClampNeg = 9 from nI_clamp (by decide)]
      show ((match S.2.2.2 (nI v).toNatClampNeg with
        | none => (.inr 1, S)
        | some k => (.inl (i + 1), zS_key S k b)) : (Nat ⊕ Nat) × zS) = _
      rw [nI_clamp (show v < 2 ^ 31 by omega)]
    rw [hz]
    cases hw2 : S.2.2.2 v with
    | none =>
      have hwN : M (h + 3) v = zN := by rw [v4 v hv, hw2]; rfl
      simp only [q38_47_0, q38_47_1, q38_47_2, q38_47_3, q38_47_4, q38_47_5, q38_47_6, q38_47_7, q38_47_8, q38_47_9, q38_100, q38_101, q38_102, q38_104, q38_106, q38_109, q38_110, q38_111, q38_112, q38_114, q38_117, q38_119, q38_120, q38_121, q38_122, q38_123, q38_125, q38_128, q38_131, q38_133, q38_134, q38_135, q38_136, q38_138, q38_140, q38_142, q38_145, q38_146, q38_147, q38_148, q38_150, q38_152, q38_154, q38_157, q38_158, q38_159, q38_160, q38_163, q38_165, q38_168, q38_170, q38_173, q38_175, q38_176, q38_177, q38_178, q38_181, q38_182, q38_184, q38_187, q38_190, q38_192, q38_195, q38_197, q38_198, q38_199, q38_200, q38_202, q38_204, q38_206, q38_209, q38_210, q38_211, q38_212, q38_213, q38_214, q38_216, q38_218, q38_221, q38_222, q38_223, q38_226, hH, s43_n hH hv hwN]
      exact ⟨rfl, hS, fun _ _ => (by first | rfl | trivial)⟩
    | some k =>
      have hkn := hK.2.2 v hv k hw2
      have hwN : M (h + 3) v = nI k := by rw [v4 v hv, hw2]; rfl
      simp only [q38_47_0, q38_47_1, q38_47_2, q38_47_3, q38_47_4, q38_47_5, q38_47_6, q38_47_7, q38_47_8, q38_47_9, q38_100, q38_101, q38_102, q38_104, q38_106, q38_109, q38_110, q38_111, q38_112, q38_114, q38_117, q38_119, q38_120, q38_121, q38_122, q38_123, q38_125, q38_128, q38_131, q38_133, q38_134, q38_135, q38_136, q38_138, q38_140, q38_142, q38_145, q38_146, q38_147, q38_148, q38_150, q38_152, q38_154, q38_157, q38_158, q38_159, q38_160, q38_163, q38_165, q38_168, q38_170, q38_173, q38_175, q38_176, q38_177, q38_178, q38_181, q38_182, q38_184, q38_187, q38_190, q38_192, q38_195, q38_197, q38_198, q38_199, q38_200, q38_202, q38_204, q38_206, q38_209, q38_210, q38_211, q38_212, q38_213, q38_214, q38_216, q38_218, q38_221, q38_222, q38_223, q38_226, hH, s43 hH hv v1 h24 hkn hwN]
      refine ⟨rfl, zV_key (zAp_C h) hS _ _, fun c hc => ?_⟩
      rw [za_up_ne (hfr c hc).2.1]
  | 10, _ =>
    have hz : zStep S (nI 10, a, b, c) i = (.inr 0, S) := by
      unfold zStep
      rw [show ((nI 10, a, b, c) : zQ).1.toNatClampNeg = 10 from nI_clamp (by decide)]
      rfl
    rw [hz]
    rw [q38_47_d (Or.inr (by decide))]
    simp only [q38_100, q38_101, q38_102, q38_104, q38_106, q38_109, q38_110, q38_111, q38_112, q38_114, q38_117, q38_119, q38_120, q38_121, q38_122, q38_123, q38_125, q38_128, q38_131, q38_133, q38_134, q38_135, q38_136, q38_138, q38_140, q38_142, q38_145, q38_146, q38_147, q38_148, q38_150, q38_152, q38_154, q38_157, q38_158, q38_159, q38_160, q38_163, q38_165, q38_168, q38_170, q38_173, q38_175, q38_176, q38_177, q38_178, q38_181, q38_182, q38_184, q38_187, q38_190, q38_192, q38_195, q38_197, q38_198, q38_199, q38_200, q38_202, q38_204, q38_206, q38_209, q38_210, q38_211, q38_212, q38_213, q38_214, q38_216, q38_218, q38_221, q38_222, q38_223, q38_226, s36]
    exact ⟨rfl, hS, fun _ _ => (by first | rfl | trivial)⟩
end ZA
section ZA
variable {L : Nat} {M : za_M} {h : Nat}
theorem zOut_neg (o : Nat) (ho : o ≤ 3) : ¬ 0 ≤ zOut (.inr o) ∧ -1 - zOut (.inr o) = nI o := by
  have : o = 0 ∨ o = 1 ∨ o = 2 ∨ o = 3 := by omega
  rcases this with rfl | rfl | rfl | rfl <;> decide
theorem s34_loop (hH : za_H h) {p : Nat} {pr : Nat → zQ} (hk : zPK p pr) : ∀ (k d i : Nat), k + d = 500 → i < 120 → ∀ (S : zS) (la : Option Nat) (M : za_M), zPC M p pr → zC M h S → zK S → M 1 5 = nI d → M 1 6 = zE la →
    zT L 34 15 [.ref 1, .ref h, .int (nI i), .int (nI d)] [] M (fun r M' => r = nI (zRun p pr k S i d la).1 ∧ zC M' h (zRun p pr k S i d la).2.1 ∧ M' 1 5 = nI (zRun p pr k S i d la).2.2.1 ∧ M' 1 6 = zE (zRun p pr k S i d la).2.2.2 ∧ M' 1 4 = nI p ∧ ∀ c, c ≠ 1 → (c < h ∨ h + 4 ≤ c) → M' c = M c) := by
  intro k
  induction k with
  | zero =>
    intro d i hd hi S la M hp hS hK h5 h6
    have hp60 := hk.1
    have hd : d = 500 := by omega
    subst hd
    rw [q34_15, q34_16, q34_19]
    have e1 : nI 500 ≤ nI 500 := by decide
    have e2 : ¬ nI i < 0 := nI_pos (by omega)
    by_cases hip : i < p
    · have e3 : ¬ nI p ≤ nI i := nI_ge hip (by omega)
      have hr : zRun p pr 0 S i 500 la = (2, S, 500, la) := by unfold zRun; exact if_pos hip
      rw [hr]
      simp only [q34_69, q34_70, q34_71, q34_74, q34_77, q34_78, q34_81, q34_82, e1, if_true, s35, zB_0, hp.1, e2, e3, not_false_eq_true, and_self, not_true_eq_false, if_false]
      exact ⟨True.intro, hS, h5, h6, True.intro, fun _ _ _ => True.intro⟩
    · have e3 : nI p ≤ nI i := nI_le (by omega) (by omega)
      have hr : zRun p pr 0 S i 500 la = (0, S, 500, la) := by unfold zRun; exact if_neg hip
      rw [hr]
      simp only [q34_69, q34_70, q34_71, q34_74, q34_77, q34_78, q34_81, q34_82, e1, if_true, s35, zB_0, hp.1, e2, e3, not_false_eq_true, and_false, not_true_eq_false, if_true]
      exact ⟨True.intro, hS, h5, h6, True.intro, fun _ _ _ => True.intro⟩
  | succ k ih =>
    intro d i hd hi S la M hp hS hK h5 h6
    have hh := (za_Hk (L := L) hH).2.2.2.2.2.2.2
    have hp60 := hk.1
    have e1 : ¬ nI 500 ≤ nI d := nI_ge (by omega) (by omega)
    have e2 : ¬ nI i < 0 := nI_pos (by omega)
    by_cases hip : i < p
    · have e3 : ¬ nI p ≤ nI i := nI_ge hip (by omega)
      have hi60 : i < 60 := Nat.lt_of_lt_of_le hip hk.1
      rw [q34_15, q34_16, q34_19]
      simp only [q34_22, q34_23, q34_24, q34_27, q34_30, q34_31, q34_32, q34_33, q34_34, q34_37, q34_38, q34_39, q34_42, q34_43, q34_44, q34_47, q34_48, q34_49, q34_50, q34_53, e1, s35, zB_0, hp.1, e2, e3, not_false_eq_true, and_self, not_true_eq_false, if_false, za_up_at, if_true, Nat.reduceEqDiff, h5, nI_add]
      have hp' : zPC (za_up (za_up M 1 6 (nI i)) 1 5 (nI (d + 1))) p pr := by
        refine ⟨by rw [za_up_oi (by decide), za_up_oi (by decide)]; exact hp.1, fun j hj => ?_⟩
        rw [za_up_ne (by decide), za_up_ne (by decide), za_up_ne (by decide), za_up_ne (by decide), za_up_ne (by decide), za_up_ne (by decide), za_up_ne (by decide), za_up_ne (by decide)]
        exact hp.2 j hj
      have hS' : zC (za_up (za_up M 1 6 (nI i)) 1 5 (nI (d + 1))) h S := zV_cg hS (by rw [za_up_ne (show h ≠ 1 by omega), za_up_ne (show h ≠ 1 by omega)]) (by rw [za_up_ne (show h + 1 ≠ 1 by omega), za_up_ne (show h + 1 ≠ 1 by omega)]) (by rw [za_up_ne (show h + 2 ≠ 1 by omega), za_up_ne (show h + 2 ≠ 1 by omega)]) (by rw [za_up_ne (show h + 3 ≠ 1 by omega), za_up_ne (show h + 3 ≠ 1 by omega)])
      refine zT_mono (s38 hH hp' hk hS' hK hip) ?_
      rintro r M1 ⟨r1, r2, r3⟩
      have hf1 : M1 1 = za_up (za_up M 1 6 (nI i)) 1 5 (nI (d + 1)) 1 := r3 1 (Or.inl (by omega))
      have hf : ∀ c, c ≠ 1 → (c < h ∨ h + 4 ≤ c) → M1 c = M c := fun c c1 c2 => by rw [r3 c c2, za_up_ne c1, za_up_ne c1]
      have g5 : M1 1 5 = nI (d + 1) := by rw [hf1, za_up_same]
      have g6 : M1 1 6 = zE (some i) := by rw [hf1, za_up_oi (by decide), za_up_same]; rfl
      have g4 : M1 1 4 = nI p := by rw [hf1, za_up_oi (by decide), za_up_oi (by decide)]; exact hp.1
      obtain ⟨z1, z2, z3⟩ := zStep_K (i := i) hK (hk.2 i hip)
      have hpc1 : zPC M1 p pr := by
        refine ⟨g4, fun j hj => ?_⟩
        rw [hf 2 (by decide) (Or.inl (by omega)), hf 3 (by decide) (Or.inl (by omega)), hf 4 (by decide) (Or.inl (by omega)), hf 5 (by decide) (Or.inl (by omega))]
        exact hp.2 j hj
      cases hz : zStep S (pr i) i with
      | mk t S' =>
        rw [hz] at r1 r2 z1 z2 z3
        dsimp only at r1 r2 z1 z2 z3
        cases t with
        | inr o =>
          obtain ⟨o1, o2⟩ := zOut_neg o (z3 o rfl)
          have hr : zRun p pr (k + 1) S i d la = (o, S', d + 1, some i) := by
            unfold zRun
            rw [if_pos hip, hz]
          rw [hr]
          subst r1
          simp only [q34_53, q34_54, q34_55, q34_58, q34_59, q34_62, o1, if_false, s37, o2]
          exact ⟨True.intro, r2, g5, g6, g4, hf⟩
        | inl j =>
          have hr : zRun p pr (k + 1) S i d la = zRun p pr k S' j (d + 1) (some i) := by
            conv => lhs; unfold zRun
            rw [if_pos hip, hz]
          rw [hr]
          have hj : j < 120 := by rcases z2 j rfl with q | q <;> omega
          have o1 : (0 : Int32) ≤ nI j := nI_pos' (by omega)
          subst r1
          rw [zOut_l]
          simp only [q34_53, q34_54, q34_55, q34_58, q34_59, q34_62, q34_63, q34_66, o1, if_true, nI_add]
          refine zT_mono (ih (d + 1) j (by omega) hj S' (some i) M1 hpc1 r2 z1 g5 g6) ?_
          rintro r' M2 ⟨t1, t2, t3, t4, t5, t6⟩
          exact ⟨t1, t2, t3, t4, t5, fun c c1 c2 => (t6 c c1 c2).trans (hf c c1 c2)⟩
    · have e3 : nI p ≤ nI i := nI_le (by omega) (by omega)
      have hr : zRun p pr (k + 1) S i d la = (0, S, d, la) := by unfold zRun; exact if_neg hip
      rw [hr, q34_15, q34_16, q34_19]
      simp only [q34_22, q34_23, q34_24, q34_27, q34_30, q34_31, e1, s35, zB_0, hp.1, e2, e3, not_false_eq_true, and_false, not_true_eq_false, if_true, if_false]
      exact ⟨True.intro, hS, h5, h6, True.intro, fun _ _ _ => True.intro⟩
theorem s34 (hH : za_H h) {p : Nat} {pr : Nat → zQ} (hk : zPK p pr) {S : zS} (hp : zPC M p pr) (hS : zC M h S) (hK : zK S) : zT L 34 0 [.ref 1, .ref h, .null, .null] [] M (fun r M' => r = nI (zRun p pr 500 S 0 0 none).1 ∧ zC M' h (zRun p pr 500 S 0 0 none).2.1 ∧ M' 1 5 = nI (zRun p pr 500 S 0 0 none).2.2.1 ∧ M' 1 6 = zE (zRun p pr 500 S 0 0 none).2.2.2 ∧ M' 1 4 = nI p ∧ ∀ c, c ≠ 1 → (c < h ∨ h + 4 ≤ c) → M' c = M c) := by
  have hh := (za_Hk (L := L) hH).2.2.2.2.2.2.2
  simp only [q34_0, q34_1, q34_2, q34_5, q34_6, q34_8, q34_11, q34_12, q34_13, q34_14]
  have hp' : zPC (za_up (za_up M 1 5 (nI 0)) 1 6 zN) p pr := by
    refine ⟨by rw [za_up_oi (by decide), za_up_oi (by decide)]; exact hp.1, fun j hj => ?_⟩
    rw [za_up_ne (by decide), za_up_ne (by decide), za_up_ne (by decide), za_up_ne (by decide), za_up_ne (by decide), za_up_ne (by decide), za_up_ne (by decide), za_up_ne (by decide)]
    exact hp.2 j hj
  have hS' : zC (za_up (za_up M 1 5 (nI 0)) 1 6 zN) h S := zV_cg hS (by rw [za_up_ne (show h ≠ 1 by omega), za_up_ne (show h ≠ 1 by omega)]) (by rw [za_up_ne (show h + 1 ≠ 1 by omega), za_up_ne (show h + 1 ≠ 1 by omega)]) (by rw [za_up_ne (show h + 2 ≠ 1 by omega), za_up_ne (show h + 2 ≠ 1 by omega)]) (by rw [za_up_ne (show h + 3 ≠ 1 by omega), za_up_ne (show h + 3 ≠ 1 by omega)])
  refine zT_mono (s34_loop hH hk 500 0 0 rfl (by omega) S none _ hp' hS' hK (by rw [za_up_oi (by decide), za_up_same]) (by rw [za_up_same]; rfl)) ?_
  rintro r M2 ⟨t1, t2, t3, t4, t5, t6⟩
  exact ⟨t1, t2, t3, t4, t5, fun c c1 c2 => by rw [t6 c c1 c2, za_up_ne c1, za_up_ne c1]⟩
end ZA
