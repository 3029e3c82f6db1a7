/-! the law's loop -/
section ZA
variable {L : Nat} {M : za_M} {p : Nat} {pr : Nat → zQ} {S : zS} {d : Nat} {la : Option Nat} {w : Nat} {i : Nat} {Q : Int32 → za_M → Prop}
theorem z100 (hL : L < 2 ^ 30) {k : Nat} (hk : k < L) : za_in L 100 false (nI k) ∧ (nI k).toNatClampNeg = k := ⟨za_in_of (n := L) rfl hk (by omega), nI_clamp (by omega)⟩
set_option maxHeartbeats 2000000 in
theorem law_op (hL : L < 2 ^ 30) (hi : i + 7 ≤ L) (hJ : zJ M p pr S d la w) (fin : ∀ M2, zJE M M2 → zT L 109 587 [.ref 100, .ref 0, .ref 26, .int (nI i)] [] M2 Q) : zT L 109 108 [.ref 100, .ref 0, .ref 26, .int (nI i)] [] M Q := by
  obtain ⟨a1, b1⟩ := z100 hL (show i + 1 < L by omega)
  obtain ⟨a2, b2⟩ := z100 hL (show i + 2 < L by omega)
  obtain ⟨a3, b3⟩ := z100 hL (show i + 3 < L by omega)
  obtain ⟨a4, b4⟩ := z100 hL (show i + 4 < L by omega)
  simp only [q109_108, q109_109, q109_110, q109_111, q109_112, q109_113, q109_114, q109_115, q109_116, q109_117, q109_118, q109_119, q109_120, q109_121, q109_122, q109_123, q109_124, q109_125, q109_126, q109_127, q109_128, q109_129, nI_add, true_and, a1, b1, a2, b2, a3, b3, a4, b4]
  refine zT_mono (zT_keep (j_op hJ)) ?_
  rintro r1 M1 ⟨h1, k1⟩
  simp only [q109_132, q109_133, q109_134, q109_135, q109_136, q109_137, q109_138, q109_139, q109_140, q109_141, q109_142, q109_143, q109_144, q109_145, q109_146, q109_147, q109_148, q109_149, q109_150, q109_151, q109_152, q109_153, nI_add, true_and, a1, b1, a2, b2, a3, b3, a4, b4, k1]
  refine zT_mono h1 ?_
  rintro r2 M2 ⟨e, h2⟩
  rw [q109_156, if_pos e]
  exact fin M2 h2
set_option maxHeartbeats 2000000 in
theorem law_clear (hL : L < 2 ^ 30) (hi : i + 7 ≤ L) (hJ : zJ M p pr S d la w) (fin : ∀ M2, zJE M M2 → zT L 109 587 [.ref 100, .ref 0, .ref 26, .int (nI i)] [] M2 Q) : zT L 109 161 [.ref 100, .ref 0, .ref 26, .int (nI i)] [] M Q := by
  simp only [q109_161, q109_162]
  refine zT_mono (zT_keep (j_clear hJ)) ?_
  rintro r1 M1 ⟨h1, k1⟩
  simp only [q109_165, q109_166]
  refine zT_mono h1 ?_
  rintro r2 M2 ⟨e, h2⟩
  rw [q109_169, if_pos e]
  exact fin M2 h2
set_option maxHeartbeats 2000000 in
theorem law_empty (hL : L < 2 ^ 30) (hi : i + 7 ≤ L) (hJ : zJ M p pr S d la w) (fin : ∀ M2, zJE M M2 → zT L 109 587 [.ref 100, .ref 0, .ref 26, .int (nI i)] [] M2 Q) : zT L 109 174 [.ref 100, .ref 0, .ref 26, .int (nI i)] [] M Q := by
  simp only [q109_174, q109_175]
  refine zT_mono (zT_keep (j_empty hJ)) ?_
  rintro r1 M1 ⟨h1, k1⟩
  simp only [q109_178, q109_179]
  refine zT_mono h1 ?_
  rintro r2 M2 ⟨e, h2⟩
  rw [q109_182, if_pos e]
  exact fin M2 h2
set_option maxHeartbeats 2000000 in
theorem law_node (hL : L < 2 ^ 30) (hi : i + 7 ≤ L) (hJ : zJ M p pr S d la w) (fin : ∀ M2, zJE M M2 → zT L 109 587 [.ref 100, .ref 0, .ref 26, .int (nI i)] [] M2 Q) : zT L 109 187 [.ref 100, .ref 0, .ref 26, .int (nI i)] [] M Q := by
  obtain ⟨a1, b1⟩ := z100 hL (show i + 1 < L by omega)
  simp only [q109_187, q109_188, q109_189, q109_190, q109_191, q109_192, q109_193, nI_add, true_and, a1, b1]
  refine zT_mono (zT_keep (j_node hJ)) ?_
  rintro r1 M1 ⟨h1, k1⟩
  simp only [q109_196, q109_197, q109_198, q109_199, q109_200, q109_201, q109_202, nI_add, true_and, a1, b1, k1]
  refine zT_mono h1 ?_
  rintro r2 M2 ⟨e, h2⟩
  rw [q109_205, if_pos e]
  exact fin M2 h2
set_option maxHeartbeats 2000000 in
theorem law_link (hL : L < 2 ^ 30) (hi : i + 7 ≤ L) (hJ : zJ M p pr S d la w) (fin : ∀ M2, zJE M M2 → zT L 109 587 [.ref 100, .ref 0, .ref 26, .int (nI i)] [] M2 Q) : zT L 109 210 [.ref 100, .ref 0, .ref 26, .int (nI i)] [] M Q := by
  obtain ⟨a1, b1⟩ := z100 hL (show i + 1 < L by omega)
  obtain ⟨a2, b2⟩ := z100 hL (show i + 2 < L by omega)
  obtain ⟨a3, b3⟩ := z100 hL (show i + 3 < L by omega)
  simp only [q109_210, q109_211, q109_212, q109_213, q109_214, q109_215, q109_216, q109_217, q109_218, q109_219, q109_220, q109_221, q109_222, q109_223, q109_224, q109_225, q109_226, nI_add, true_and, a1, b1, a2, b2, a3, b3]
  refine zT_mono (zT_keep (j_link hJ)) ?_
  rintro r1 M1 ⟨h1, k1⟩
  simp only [q109_229, q109_230, q109_231, q109_232, q109_233, q109_234, q109_235, q109_236, q109_237, q109_238, q109_239, q109_240, q109_241, q109_242, q109_243, q109_244, q109_245, nI_add, true_and, a1, b1, a2, b2, a3, b3, k1]
  refine zT_mono h1 ?_
  rintro r2 M2 ⟨e, h2⟩
  rw [q109_248, if_pos e]
  exact fin M2 h2
set_option maxHeartbeats 2000000 in
theorem law_hold (hL : L < 2 ^ 30) (hi : i + 7 ≤ L) (hJ : zJ M p pr S d la w) (fin : ∀ M2, zJE M M2 → zT L 109 587 [.ref 100, .ref 0, .ref 26, .int (nI i)] [] M2 Q) : zT L 109 253 [.ref 100, .ref 0, .ref 26, .int (nI i)] [] M Q := by
  obtain ⟨a1, b1⟩ := z100 hL (show i + 1 < L by omega)
  obtain ⟨a2, b2⟩ := z100 hL (show i + 2 < L by omega)
  simp only [q109_253, q109_254, q109_255, q109_256, q109_257, q109_258, q109_259, q109_260, q109_261, q109_262, q109_263, q109_264, nI_add, true_and, a1, b1, a2, b2]
  refine zT_mono (zT_keep (j_hold hJ)) ?_
  rintro r1 M1 ⟨h1, k1⟩
  simp only [q109_267, q109_268, q109_269, q109_270, q109_271, q109_272, q109_273, q109_274, q109_275, q109_276, q109_277, q109_278, nI_add, true_and, a1, b1, a2, b2, k1]
  refine zT_mono h1 ?_
  rintro r2 M2 ⟨e, h2⟩
  rw [q109_281, if_pos e]
  exact fin M2 h2
set_option maxHeartbeats 2000000 in
theorem law_run (hL : L < 2 ^ 30) (hi : i + 7 ≤ L) (hJ : zJ M p pr S d la w) (fin : ∀ M2, zJE M M2 → zT L 109 587 [.ref 100, .ref 0, .ref 26, .int (nI i)] [] M2 Q) : zT L 109 286 [.ref 100, .ref 0, .ref 26, .int (nI i)] [] M Q := by
  simp only [q109_286, q109_287]
  refine zT_mono (zT_keep (j_run hJ)) ?_
  rintro r1 M1 ⟨h1, k1⟩
  simp only [q109_290, q109_291]
  refine zT_mono h1 ?_
  rintro r2 M2 ⟨e, h2⟩
  rw [q109_294, if_pos e]
  exact fin M2 h2
set_option maxHeartbeats 2000000 in
theorem law_told (hL : L < 2 ^ 30) (hi : i + 7 ≤ L) (hJ : zJ M p pr S d la w) (fin : ∀ M2, zJE M M2 → zT L 109 587 [.ref 100, .ref 0, .ref 26, .int (nI i)] [] M2 Q) : zT L 109 299 [.ref 100, .ref 0, .ref 26, .int (nI i)] [] M Q := by
  obtain ⟨a1, b1⟩ := z100 hL (show i + 1 < L by omega)
  simp only [q109_299, q109_300, q109_301, q109_302, q109_303, q109_304, q109_305, nI_add, true_and, a1, b1]
  refine zT_mono (zT_keep (j_told hJ)) ?_
  rintro r1 M1 ⟨h1, k1⟩
  simp only [q109_308, q109_309, q109_310, q109_311, q109_312, q109_313, q109_314, nI_add, true_and, a1, b1, k1]
  refine zT_mono h1 ?_
  rintro r2 M2 ⟨e, h2⟩
  rw [q109_317, if_pos e]
  exact fin M2 h2
set_option maxHeartbeats 2000000 in
theorem law_held (hL : L < 2 ^ 30) (hi : i + 7 ≤ L) (hJ : zJ M p pr S d la w) (fin : ∀ M2, zJE M M2 → zT L 109 587 [.ref 100, .ref 0, .ref 26, .int (nI i)] [] M2 Q) : zT L 109 322 [.ref 100, .ref 0, .ref 26, .int (nI i)] [] M Q := by
  obtain ⟨a1, b1⟩ := z100 hL (show i + 1 < L by omega)
  simp only [q109_322, q109_323, q109_324, q109_325, q109_326, q109_327, q109_328, nI_add, true_and, a1, b1]
  refine zT_mono (zT_keep (j_held hJ)) ?_
  rintro r1 M1 ⟨h1, k1⟩
  simp only [q109_331, q109_332, q109_333, q109_334, q109_335, q109_336, q109_337, nI_add, true_and, a1, b1, k1]
  refine zT_mono h1 ?_
  rintro r2 M2 ⟨e, h2⟩
  rw [q109_340, if_pos e]
  exact fin M2 h2
set_option maxHeartbeats 2000000 in
theorem law_of (hL : L < 2 ^ 30) (hi : i + 7 ≤ L) (hJ : zJ M p pr S d la w) (fin : ∀ M2, zJE M M2 → zT L 109 587 [.ref 100, .ref 0, .ref 26, .int (nI i)] [] M2 Q) : zT L 109 345 [.ref 100, .ref 0, .ref 26, .int (nI i)] [] M Q := by
  obtain ⟨a1, b1⟩ := z100 hL (show i + 1 < L by omega)
  obtain ⟨a2, b2⟩ := z100 hL (show i + 2 < L by omega)
  simp only [q109_345, q109_346, q109_347, q109_348, q109_349, q109_350, q109_351, q109_352, q109_353, q109_354, q109_355, q109_356, nI_add, true_and, a1, b1, a2, b2]
  refine zT_mono (zT_keep (j_of hJ)) ?_
  rintro r1 M1 ⟨h1, k1⟩
  simp only [q109_359, q109_360, q109_361, q109_362, q109_363, q109_364, q109_365, q109_366, q109_367, q109_368, q109_369, q109_370, nI_add, true_and, a1, b1, a2, b2, k1]
  refine zT_mono h1 ?_
  rintro r2 M2 ⟨e, h2⟩
  rw [q109_373, if_pos e]
  exact fin M2 h2
set_option maxHeartbeats 2000000 in
theorem law_form (hL : L < 2 ^ 30) (hi : i + 7 ≤ L) (hJ : zJ M p pr S d la w) (fin : ∀ M2, zJE M M2 → zT L 109 587 [.ref 100, .ref 0, .ref 26, .int (nI i)] [] M2 Q) : zT L 109 378 [.ref 100, .ref 0, .ref 26, .int (nI i)] [] M Q := by
  obtain ⟨a1, b1⟩ := z100 hL (show i + 1 < L by omega)
  obtain ⟨a2, b2⟩ := z100 hL (show i + 2 < L by omega)
  simp only [q109_378, q109_379, q109_380, q109_381, q109_382, q109_383, q109_384, q109_385, q109_386, q109_387, q109_388, q109_389, nI_add, true_and, a1, b1, a2, b2]
  refine zT_mono (zT_keep (j_form hJ)) ?_
  rintro r1 M1 ⟨h1, k1⟩
  simp only [q109_392, q109_393, q109_394, q109_395, q109_396, q109_397, q109_398, q109_399, q109_400, q109_401, q109_402, q109_403, nI_add, true_and, a1, b1, a2, b2, k1]
  refine zT_mono h1 ?_
  rintro r2 M2 ⟨e, h2⟩
  rw [q109_406, if_pos e]
  exact fin M2 h2
set_option maxHeartbeats 2000000 in
theorem law_size (hL : L < 2 ^ 30) (hi : i + 7 ≤ L) (hJ : zJ M p pr S d la w) (fin : ∀ M2, zJE M M2 → zT L 109 587 [.ref 100, .ref 0, .ref 26, .int (nI i)] [] M2 Q) : zT L 109 411 [.ref 100, .ref 0, .ref 26, .int (nI i)] [] M Q := by
  obtain ⟨a1, b1⟩ := z100 hL (show i + 1 < L by omega)
  obtain ⟨a2, b2⟩ := z100 hL (show i + 2 < L by omega)
  by_cases hz : M 100 (i + 2) = 0
  · have hz := eq_true hz
    simp only [q109_411, q109_412, q109_413, q109_414, q109_415, q109_416, q109_417, q109_418, q109_419, q109_420, q109_421, q109_422, q109_425, q109_426, q109_429, q109_430, nI_add, true_and, a1, b1, a2, b2, hz, if_true]
    refine zT_mono (zT_keep (j_size hJ (Or.inl ⟨rfl, rfl⟩))) ?_
    rintro r1 M1 ⟨h1, k1⟩
    simp only [q109_433, q109_434, q109_435, q109_436, q109_437, q109_438, q109_439, q109_440, q109_441, q109_442, q109_443, q109_444, q109_447, q109_448, q109_451, q109_452, nI_add, true_and, a1, b1, a2, b2, hz, if_true, k1]
    refine zT_mono h1 ?_
    rintro r2 M2 ⟨e, h2⟩
    rw [q109_455, if_pos e]
    exact fin M2 h2
  · have hz := eq_false hz
    simp only [q109_411, q109_412, q109_413, q109_414, q109_415, q109_416, q109_417, q109_418, q109_419, q109_420, q109_421, q109_422, q109_425, q109_426, q109_429, q109_430, nI_add, true_and, a1, b1, a2, b2, hz, if_false]
    refine zT_mono (zT_keep (j_size hJ (Or.inr ⟨rfl, rfl⟩))) ?_
    rintro r1 M1 ⟨h1, k1⟩
    simp only [q109_433, q109_434, q109_435, q109_436, q109_437, q109_438, q109_439, q109_440, q109_441, q109_442, q109_443, q109_444, q109_447, q109_448, q109_451, q109_452, nI_add, true_and, a1, b1, a2, b2, hz, if_false, k1]
    refine zT_mono h1 ?_
    rintro r2 M2 ⟨e, h2⟩
    rw [q109_455, if_pos e]
    exact fin M2 h2
set_option maxHeartbeats 2000000 in
theorem law_claim (hL : L < 2 ^ 30) (hi : i + 7 ≤ L) (hJ : zJ M p pr S d la w) (fin : ∀ M2, zJE M M2 → zT L 109 587 [.ref 100, .ref 0, .ref 26, .int (nI i)] [] M2 Q) : zT L 109 460 [.ref 100, .ref 0, .ref 26, .int (nI i)] [] M Q := by
  obtain ⟨a1, b1⟩ := z100 hL (show i + 1 < L by omega)
  obtain ⟨a2, b2⟩ := z100 hL (show i + 2 < L by omega)
  obtain ⟨a3, b3⟩ := z100 hL (show i + 3 < L by omega)
  obtain ⟨a4, b4⟩ := z100 hL (show i + 4 < L by omega)
  obtain ⟨a5, b5⟩ := z100 hL (show i + 5 < L by omega)
  obtain ⟨a6, b6⟩ := z100 hL (show i + 6 < L by omega)
  by_cases hz : M 100 (i + 6) = 0
  · have hz := eq_true hz
    have hp := j_claim (L := L) (v := M 100 (i + 1)) (F := M 100 (i + 2)) (n := M 100 (i + 3)) (e := M 100 (i + 4)) (A := M 100 (i + 5)) (ke := false) hJ
    rw [zB_f (P := (false = true)) (by decide)] at hp
    simp only [q109_460, q109_461, q109_462, q109_463, q109_464, q109_465, q109_466, q109_467, q109_468, q109_469, q109_470, q109_471, q109_472, q109_473, q109_474, q109_475, q109_476, q109_477, q109_478, q109_479, q109_480, q109_481, q109_482, q109_483, q109_484, q109_485, q109_486, q109_487, q109_488, q109_490, q109_491, q109_492, q109_495, q109_496, q109_499, q109_500, nI_add, true_and, a1, b1, a2, b2, a3, b3, a4, b4, a5, b5, a6, b6, hz, if_true]
    refine zT_mono (zT_keep hp) ?_
    rintro r1 M1 ⟨h1, k1⟩
    simp only [q109_503, q109_504, q109_505, q109_506, q109_507, q109_508, q109_509, q109_510, q109_511, q109_512, q109_513, q109_514, q109_515, q109_516, q109_517, q109_518, q109_519, q109_520, q109_521, q109_522, q109_523, q109_524, q109_525, q109_526, q109_527, q109_528, q109_529, q109_530, q109_531, q109_533, q109_534, q109_535, q109_538, q109_539, q109_542, q109_543, nI_add, true_and, a1, b1, a2, b2, a3, b3, a4, b4, a5, b5, a6, b6, hz, if_true, k1]
    refine zT_mono h1 ?_
    rintro r2 M2 ⟨e, h2⟩
    rw [q109_546, if_pos e]
    exact fin M2 h2
  · have hz := eq_false hz
    have hp := j_claim (L := L) (v := M 100 (i + 1)) (F := M 100 (i + 2)) (n := M 100 (i + 3)) (e := M 100 (i + 4)) (A := M 100 (i + 5)) (ke := true) hJ
    rw [zB_t (P := (true = true)) rfl] at hp
    simp only [q109_460, q109_461, q109_462, q109_463, q109_464, q109_465, q109_466, q109_467, q109_468, q109_469, q109_470, q109_471, q109_472, q109_473, q109_474, q109_475, q109_476, q109_477, q109_478, q109_479, q109_480, q109_481, q109_482, q109_483, q109_484, q109_485, q109_486, q109_487, q109_488, q109_490, q109_491, q109_492, q109_495, q109_496, q109_499, q109_500, nI_add, true_and, a1, b1, a2, b2, a3, b3, a4, b4, a5, b5, a6, b6, hz, if_false]
    refine zT_mono (zT_keep hp) ?_
    rintro r1 M1 ⟨h1, k1⟩
    simp only [q109_503, q109_504, q109_505, q109_506, q109_507, q109_508, q109_509, q109_510, q109_511, q109_512, q109_513, q109_514, q109_515, q109_516, q109_517, q109_518, q109_519, q109_520, q109_521, q109_522, q109_523, q109_524, q109_525, q109_526, q109_527, q109_528, q109_529, q109_530, q109_531, q109_533, q109_534, q109_535, q109_538, q109_539, q109_542, q109_543, nI_add, true_and, a1, b1, a2, b2, a3, b3, a4, b4, a5, b5, a6, b6, hz, if_false, k1]
    refine zT_mono h1 ?_
    rintro r2 M2 ⟨e, h2⟩
    rw [q109_546, if_pos e]
    exact fin M2 h2
set_option maxHeartbeats 2000000 in
theorem law_why (hL : L < 2 ^ 30) (hi : i + 7 ≤ L) (hJ : zJ M p pr S d la w) (fin : ∀ M2, zJE M M2 → zT L 109 587 [.ref 100, .ref 0, .ref 26, .int (nI i)] [] M2 Q) : zT L 109 551 [.ref 100, .ref 0, .ref 26, .int (nI i)] [] M Q := by
  simp only [q109_551, q109_552]
  refine zT_mono (zT_keep (j_why hJ)) ?_
  rintro r1 M1 ⟨h1, k1⟩
  simp only [q109_555, q109_556]
  refine zT_mono h1 ?_
  rintro r2 M2 ⟨e, h2⟩
  rw [q109_559, if_pos e]
  exact fin M2 h2
set_option maxHeartbeats 2000000 in
theorem law_count (hL : L < 2 ^ 30) (hi : i + 7 ≤ L) (hJ : zJ M p pr S d la w) (fin : ∀ M2, zJE M M2 → zT L 109 587 [.ref 100, .ref 0, .ref 26, .int (nI i)] [] M2 Q) : zT L 109 564 [.ref 100, .ref 0, .ref 26, .int (nI i)] [] M Q := by
  obtain ⟨a1, b1⟩ := z100 hL (show i + 1 < L by omega)
  simp only [q109_564, q109_565, q109_566, q109_567, q109_568, q109_569, q109_570, nI_add, true_and, a1, b1]
  refine zT_mono (zT_keep (j_count hJ)) ?_
  rintro r1 M1 ⟨h1, k1⟩
  simp only [q109_573, q109_574, q109_575, q109_576, q109_577, q109_578, q109_579, nI_add, true_and, a1, b1, k1]
  refine zT_mono h1 ?_
  rintro r2 M2 ⟨e, h2⟩
  rw [q109_582, if_pos e]
  exact fin M2 h2
theorem law_loop (hL : L < 2 ^ 30) : ∀ (m i : Nat) (M : za_M), L < i + 7 * m + 7 → i ≤ L → (∃ p pr S d la w, zJ M p pr S d la w) → zT L 109 18 [.ref 100, .ref 0, .ref 26, .int (nI i)] [] M (fun r _ => r = nI 1) := by
  intro m
  induction m with
  | zero =>
    intro i M h1 h2 hJ
    have hc : nI L - nI 7 < nI i := by
      rw [Int32.lt_iff_toInt_lt, pk_sub_toInt (by omega) (by omega), nI_toInt (by omega)]; omega
    simp only [q109_18, q109_19, q109_20, q109_21, q109_23, q109_24, hc, if_true, q109_593, q109_594, zb1]
  | succ m ih =>
    intro i M h1 h2 hJ
    by_cases h7 : i + 7 ≤ L
    · have hc : ¬ nI L - nI 7 < nI i := by
        rw [Int32.lt_iff_toInt_lt, pk_sub_toInt (by omega) (by omega), nI_toInt (by omega)]; omega
      obtain ⟨a0, b0⟩ := z100 hL (show i < L by omega)
      obtain ⟨p, pr, S, d, la, w, hJ⟩ := hJ
      have fin : ∀ M2, zJE M M2 → zT L 109 587 [.ref 100, .ref 0, .ref 26, .int (nI i)] [] M2 (fun r _ => r = nI 1) := by
        intro M2 h
        rw [q109_587, q109_590, nI_add]
        exact ih (i + 7) M2 (by omega) (by omega) h.2
      simp only [q109_18, q109_19, q109_20, q109_21, q109_23, q109_24, q109_27, q109_28, q109_29, q109_30, q109_32, hc, if_false, a0, b0, true_and]
      obtain ⟨k, hk, e⟩ := pk_andE (M 100 i) (m := nI 15) 4 (by decide)
      rw [e]
      match k, hk with
      | 0, _ => rw [q109_33_0]; exact law_op hL h7 hJ fin
      | 1, _ => rw [q109_33_1]; exact law_clear hL h7 hJ fin
      | 2, _ => rw [q109_33_2]; exact law_empty hL h7 hJ fin
      | 3, _ => rw [q109_33_3]; exact law_node hL h7 hJ fin
      | 4, _ => rw [q109_33_4]; exact law_link hL h7 hJ fin
      | 5, _ => rw [q109_33_5]; exact law_hold hL h7 hJ fin
      | 6, _ => rw [q109_33_6]; exact law_run hL h7 hJ fin
      | 7, _ => rw [q109_33_7]; exact law_told hL h7 hJ fin
      | 8, _ => rw [q109_33_8]; exact law_held hL h7 hJ fin
      | 9, _ => rw [q109_33_9]; exact law_of hL h7 hJ fin
      | 10, _ => rw [q109_33_10]; exact law_form hL h7 hJ fin
      | 11, _ => rw [q109_33_11]; exact law_size hL h7 hJ fin
      | 12, _ => rw [q109_33_12]; exact law_claim hL h7 hJ fin
      | 13, _ => rw [q109_33_13]; exact law_why hL h7 hJ fin
      | 14, _ => rw [q109_33_14]; exact law_count hL h7 hJ fin
      | 15, _ => rw [q109_33_d (Or.inr (by decide))]; exact fin M ⟨rfl, p, pr, S, d, la, w, hJ⟩
      | k + 16, hk => exact absurd hk (by omega)
    · have hc : nI L - nI 7 < nI i := by
        rw [Int32.lt_iff_toInt_lt, pk_sub_toInt (by omega) (by omega), nI_toInt (by omega)]; omega
      simp only [q109_18, q109_19, q109_20, q109_21, q109_23, q109_24, hc, if_true, q109_593, q109_594, zb1]
end ZA
