def frM : List (Nat × Int) := [(0, 63), (1, 64), (2, 0), (3, 0), (4, 0), (5, -1), (6, 0), (7, 0), (8, 0), (9, 0), (10, 0), (11, 65), (12, 66), (13, 67), (14, 68), (15, 69), (16, 70), (17, 71), (18, 72), (19, 73), (20, 74), (21, 75), (22, 76), (23, 77), (24, 78), (25, 79), (26, 80), (27, 81), (28, 82), (29, 83), (30, 84), (31, 85), (32, 86), (33, 87), (34, 0), (35, 0), (36, 0), (37, 0), (38, 0), (39, 88), (40, 0), (41, 0), (42, 89), (43, -1), (44, -1), (45, 90), (46, 0), (47, 91), (48, 92), (49, 93), (50, 94), (51, 95), (52, 0), (53, 1), (54, 1), (55, 2), (56, 96), (57, 97), (58, 98), (59, 99), (60, 100), (61, 101), (62, 102), (63, 103), (64, 0), (65, 0), (66, 0), (67, 0), (68, 104), (69, 105), (70, 106), (71, 107), (72, 0), (73, 108), (74, 109), (75, 110), (76, 111), (77, 112), (78, 113), (79, 114), (80, 0), (81, 0), (82, 0), (83, 0), (84, 0), (85, 0), (86, 0), (87, 0), (88, 0), (89, 0), (90, 0), (91, 0), (92, 0), (93, 0), (94, 115), (95, 116), (96, 117), (97, 118), (98, 119), (99, 0)]
/-- a new reference: what its object holds, and its rows that are read -/
def FrM (M : pM) : Prop := (∀ q ∈ frM, M 61 q.1 = q.2) ∧ (∀ c, 64 ≤ c → c ≤ 68 → M c 0 = 0) ∧ (∀ i, i < 64 → M 69 i = 0) ∧ (∀ i, i < 48 → M 70 i = 0) ∧ (∀ i, i < 6 → M 71 i = -1 ∧ M 72 i = 0 ∧ M 73 i = -1) ∧ ∀ i, i < 4096 → M 114 i = farF i
theorem fm_0 {M : pM} (h : FrM M) : M 61 0 = 63 := h.1 (0, 63) (by decide)
theorem fm_1 {M : pM} (h : FrM M) : M 61 1 = 64 := h.1 (1, 64) (by decide)
theorem fm_2 {M : pM} (h : FrM M) : M 61 2 = 0 := h.1 (2, 0) (by decide)
theorem fm_3 {M : pM} (h : FrM M) : M 61 3 = 0 := h.1 (3, 0) (by decide)
theorem fm_4 {M : pM} (h : FrM M) : M 61 4 = 0 := h.1 (4, 0) (by decide)
theorem fm_5 {M : pM} (h : FrM M) : M 61 5 = -1 := h.1 (5, -1) (by decide)
theorem fm_6 {M : pM} (h : FrM M) : M 61 6 = 0 := h.1 (6, 0) (by decide)
theorem fm_7 {M : pM} (h : FrM M) : M 61 7 = 0 := h.1 (7, 0) (by decide)
theorem fm_8 {M : pM} (h : FrM M) : M 61 8 = 0 := h.1 (8, 0) (by decide)
theorem fm_9 {M : pM} (h : FrM M) : M 61 9 = 0 := h.1 (9, 0) (by decide)
theorem fm_10 {M : pM} (h : FrM M) : M 61 10 = 0 := h.1 (10, 0) (by decide)
theorem fm_11 {M : pM} (h : FrM M) : M 61 11 = 65 := h.1 (11, 65) (by decide)
theorem fm_12 {M : pM} (h : FrM M) : M 61 12 = 66 := h.1 (12, 66) (by decide)
theorem fm_13 {M : pM} (h : FrM M) : M 61 13 = 67 := h.1 (13, 67) (by decide)
theorem fm_14 {M : pM} (h : FrM M) : M 61 14 = 68 := h.1 (14, 68) (by decide)
theorem fm_15 {M : pM} (h : FrM M) : M 61 15 = 69 := h.1 (15, 69) (by decide)
theorem fm_16 {M : pM} (h : FrM M) : M 61 16 = 70 := h.1 (16, 70) (by decide)
theorem fm_17 {M : pM} (h : FrM M) : M 61 17 = 71 := h.1 (17, 71) (by decide)
theorem fm_18 {M : pM} (h : FrM M) : M 61 18 = 72 := h.1 (18, 72) (by decide)
theorem fm_19 {M : pM} (h : FrM M) : M 61 19 = 73 := h.1 (19, 73) (by decide)
theorem fm_20 {M : pM} (h : FrM M) : M 61 20 = 74 := h.1 (20, 74) (by decide)
theorem fm_21 {M : pM} (h : FrM M) : M 61 21 = 75 := h.1 (21, 75) (by decide)
theorem fm_22 {M : pM} (h : FrM M) : M 61 22 = 76 := h.1 (22, 76) (by decide)
theorem fm_23 {M : pM} (h : FrM M) : M 61 23 = 77 := h.1 (23, 77) (by decide)
theorem fm_24 {M : pM} (h : FrM M) : M 61 24 = 78 := h.1 (24, 78) (by decide)
theorem fm_25 {M : pM} (h : FrM M) : M 61 25 = 79 := h.1 (25, 79) (by decide)
theorem fm_26 {M : pM} (h : FrM M) : M 61 26 = 80 := h.1 (26, 80) (by decide)
theorem fm_27 {M : pM} (h : FrM M) : M 61 27 = 81 := h.1 (27, 81) (by decide)
theorem fm_28 {M : pM} (h : FrM M) : M 61 28 = 82 := h.1 (28, 82) (by decide)
theorem fm_29 {M : pM} (h : FrM M) : M 61 29 = 83 := h.1 (29, 83) (by decide)
theorem fm_30 {M : pM} (h : FrM M) : M 61 30 = 84 := h.1 (30, 84) (by decide)
theorem fm_31 {M : pM} (h : FrM M) : M 61 31 = 85 := h.1 (31, 85) (by decide)
theorem fm_32 {M : pM} (h : FrM M) : M 61 32 = 86 := h.1 (32, 86) (by decide)
theorem fm_33 {M : pM} (h : FrM M) : M 61 33 = 87 := h.1 (33, 87) (by decide)
theorem fm_34 {M : pM} (h : FrM M) : M 61 34 = 0 := h.1 (34, 0) (by decide)
theorem fm_35 {M : pM} (h : FrM M) : M 61 35 = 0 := h.1 (35, 0) (by decide)
theorem fm_36 {M : pM} (h : FrM M) : M 61 36 = 0 := h.1 (36, 0) (by decide)
theorem fm_37 {M : pM} (h : FrM M) : M 61 37 = 0 := h.1 (37, 0) (by decide)
theorem fm_38 {M : pM} (h : FrM M) : M 61 38 = 0 := h.1 (38, 0) (by decide)
theorem fm_39 {M : pM} (h : FrM M) : M 61 39 = 88 := h.1 (39, 88) (by decide)
theorem fm_40 {M : pM} (h : FrM M) : M 61 40 = 0 := h.1 (40, 0) (by decide)
theorem fm_41 {M : pM} (h : FrM M) : M 61 41 = 0 := h.1 (41, 0) (by decide)
theorem fm_42 {M : pM} (h : FrM M) : M 61 42 = 89 := h.1 (42, 89) (by decide)
theorem fm_43 {M : pM} (h : FrM M) : M 61 43 = -1 := h.1 (43, -1) (by decide)
theorem fm_44 {M : pM} (h : FrM M) : M 61 44 = -1 := h.1 (44, -1) (by decide)
theorem fm_45 {M : pM} (h : FrM M) : M 61 45 = 90 := h.1 (45, 90) (by decide)
theorem fm_46 {M : pM} (h : FrM M) : M 61 46 = 0 := h.1 (46, 0) (by decide)
theorem fm_47 {M : pM} (h : FrM M) : M 61 47 = 91 := h.1 (47, 91) (by decide)
theorem fm_48 {M : pM} (h : FrM M) : M 61 48 = 92 := h.1 (48, 92) (by decide)
theorem fm_49 {M : pM} (h : FrM M) : M 61 49 = 93 := h.1 (49, 93) (by decide)
theorem fm_50 {M : pM} (h : FrM M) : M 61 50 = 94 := h.1 (50, 94) (by decide)
theorem fm_51 {M : pM} (h : FrM M) : M 61 51 = 95 := h.1 (51, 95) (by decide)
theorem fm_52 {M : pM} (h : FrM M) : M 61 52 = 0 := h.1 (52, 0) (by decide)
theorem fm_53 {M : pM} (h : FrM M) : M 61 53 = 1 := h.1 (53, 1) (by decide)
theorem fm_54 {M : pM} (h : FrM M) : M 61 54 = 1 := h.1 (54, 1) (by decide)
theorem fm_55 {M : pM} (h : FrM M) : M 61 55 = 2 := h.1 (55, 2) (by decide)
theorem fm_56 {M : pM} (h : FrM M) : M 61 56 = 96 := h.1 (56, 96) (by decide)
theorem fm_57 {M : pM} (h : FrM M) : M 61 57 = 97 := h.1 (57, 97) (by decide)
theorem fm_58 {M : pM} (h : FrM M) : M 61 58 = 98 := h.1 (58, 98) (by decide)
theorem fm_59 {M : pM} (h : FrM M) : M 61 59 = 99 := h.1 (59, 99) (by decide)
theorem fm_60 {M : pM} (h : FrM M) : M 61 60 = 100 := h.1 (60, 100) (by decide)
theorem fm_61 {M : pM} (h : FrM M) : M 61 61 = 101 := h.1 (61, 101) (by decide)
theorem fm_62 {M : pM} (h : FrM M) : M 61 62 = 102 := h.1 (62, 102) (by decide)
theorem fm_63 {M : pM} (h : FrM M) : M 61 63 = 103 := h.1 (63, 103) (by decide)
theorem fm_64 {M : pM} (h : FrM M) : M 61 64 = 0 := h.1 (64, 0) (by decide)
theorem fm_65 {M : pM} (h : FrM M) : M 61 65 = 0 := h.1 (65, 0) (by decide)
theorem fm_66 {M : pM} (h : FrM M) : M 61 66 = 0 := h.1 (66, 0) (by decide)
theorem fm_67 {M : pM} (h : FrM M) : M 61 67 = 0 := h.1 (67, 0) (by decide)
theorem fm_68 {M : pM} (h : FrM M) : M 61 68 = 104 := h.1 (68, 104) (by decide)
theorem fm_69 {M : pM} (h : FrM M) : M 61 69 = 105 := h.1 (69, 105) (by decide)
theorem fm_70 {M : pM} (h : FrM M) : M 61 70 = 106 := h.1 (70, 106) (by decide)
theorem fm_71 {M : pM} (h : FrM M) : M 61 71 = 107 := h.1 (71, 107) (by decide)
theorem fm_72 {M : pM} (h : FrM M) : M 61 72 = 0 := h.1 (72, 0) (by decide)
theorem fm_73 {M : pM} (h : FrM M) : M 61 73 = 108 := h.1 (73, 108) (by decide)
theorem fm_74 {M : pM} (h : FrM M) : M 61 74 = 109 := h.1 (74, 109) (by decide)
theorem fm_75 {M : pM} (h : FrM M) : M 61 75 = 110 := h.1 (75, 110) (by decide)
theorem fm_76 {M : pM} (h : FrM M) : M 61 76 = 111 := h.1 (76, 111) (by decide)
theorem fm_77 {M : pM} (h : FrM M) : M 61 77 = 112 := h.1 (77, 112) (by decide)
theorem fm_78 {M : pM} (h : FrM M) : M 61 78 = 113 := h.1 (78, 113) (by decide)
theorem fm_79 {M : pM} (h : FrM M) : M 61 79 = 114 := h.1 (79, 114) (by decide)
theorem fm_80 {M : pM} (h : FrM M) : M 61 80 = 0 := h.1 (80, 0) (by decide)
theorem fm_81 {M : pM} (h : FrM M) : M 61 81 = 0 := h.1 (81, 0) (by decide)
theorem fm_82 {M : pM} (h : FrM M) : M 61 82 = 0 := h.1 (82, 0) (by decide)
theorem fm_83 {M : pM} (h : FrM M) : M 61 83 = 0 := h.1 (83, 0) (by decide)
theorem fm_84 {M : pM} (h : FrM M) : M 61 84 = 0 := h.1 (84, 0) (by decide)
theorem fm_85 {M : pM} (h : FrM M) : M 61 85 = 0 := h.1 (85, 0) (by decide)
theorem fm_86 {M : pM} (h : FrM M) : M 61 86 = 0 := h.1 (86, 0) (by decide)
theorem fm_87 {M : pM} (h : FrM M) : M 61 87 = 0 := h.1 (87, 0) (by decide)
theorem fm_88 {M : pM} (h : FrM M) : M 61 88 = 0 := h.1 (88, 0) (by decide)
theorem fm_89 {M : pM} (h : FrM M) : M 61 89 = 0 := h.1 (89, 0) (by decide)
theorem fm_90 {M : pM} (h : FrM M) : M 61 90 = 0 := h.1 (90, 0) (by decide)
theorem fm_91 {M : pM} (h : FrM M) : M 61 91 = 0 := h.1 (91, 0) (by decide)
theorem fm_92 {M : pM} (h : FrM M) : M 61 92 = 0 := h.1 (92, 0) (by decide)
theorem fm_93 {M : pM} (h : FrM M) : M 61 93 = 0 := h.1 (93, 0) (by decide)
theorem fm_94 {M : pM} (h : FrM M) : M 61 94 = 115 := h.1 (94, 115) (by decide)
theorem fm_95 {M : pM} (h : FrM M) : M 61 95 = 116 := h.1 (95, 116) (by decide)
theorem fm_96 {M : pM} (h : FrM M) : M 61 96 = 117 := h.1 (96, 117) (by decide)
theorem fm_97 {M : pM} (h : FrM M) : M 61 97 = 118 := h.1 (97, 118) (by decide)
theorem fm_98 {M : pM} (h : FrM M) : M 61 98 = 119 := h.1 (98, 119) (by decide)
theorem fm_99 {M : pM} (h : FrM M) : M 61 99 = 0 := h.1 (99, 0) (by decide)
theorem FrM.gm {M : pM} (h : FrM M) : GM M := fun q hq => h.1 q ((by decide : ∀ q ∈ gmL, q ∈ frM) q hq)
theorem FrM.cg {M M' : pM} (h : FrM M) (e : ∀ c, 61 ≤ c → M' c = M c) : FrM M' := ⟨fun q hq => by rw [e 61 (by omega)]; exact h.1 q hq, fun c h1 h2 => by rw [e c (by omega)]; exact h.2.1 c h1 h2, fun i hi => by rw [e 69 (by omega)]; exact h.2.2.1 i hi, fun i hi => by rw [e 70 (by omega)]; exact h.2.2.2.1 i hi, fun i hi => by rw [e 71 (by omega), e 72 (by omega), e 73 (by omega)]; exact h.2.2.2.2.1 i hi, fun i hi => by rw [e 114 (by omega)]; exact h.2.2.2.2.2 i hi⟩
set_option maxHeartbeats 40000000 in
set_option maxRecDepth 100000 in
theorem initM {r : Nat} {Q : pQ} (M : pM) (K : ∀ M' : pM, FrM M' → (∀ c, c < 61 ∨ 1000 ≤ c → M' c = M c) → Q none M') : J (OJ (r + 4)) 188 62 Q 0 [some (vr 62)] [] 62 (zr M 61) := by
  simp only [s_188_0, s_188_1, s_188_4, s_188_5, s_188_8, s_188_10, s_188_13, s_188_14, s_188_17, s_188_19, s_188_22, s_188_23, s_188_24, s_188_27, s_188_28, s_188_29, s_188_31, s_188_34, s_188_35, s_188_36, s_188_38, s_188_41, s_188_42, s_188_43, s_188_45, s_188_48, s_188_49, s_188_50, s_188_52, s_188_55, s_188_56, s_188_57, s_188_59, s_188_62, s_188_63, s_188_66, s_188_68, s_188_71, s_188_72, s_188_74, s_188_76, s_188_79, s_188_80, s_188_82, s_188_84, s_188_87, s_188_88, s_188_90, s_188_92, s_188_95, s_188_96, s_188_98, s_188_100, s_188_103, s_188_104, s_188_106, s_188_108, s_188_111, s_188_112, s_188_114, s_188_116, s_188_119, s_188_120, s_188_122, s_188_124, s_188_127, s_188_128, s_188_130, s_188_132, s_188_135, s_188_136, s_188_138, s_188_140, s_188_143, s_188_144, s_188_146, s_188_148, s_188_151, s_188_152, s_188_154, s_188_156, s_188_159, s_188_160, s_188_162, s_188_164, s_188_167, s_188_168, s_188_170, s_188_172, s_188_175, s_188_176, s_188_178, s_188_180, s_188_183, s_188_184, s_188_186, s_188_188, s_188_191, s_188_192, s_188_194, s_188_196, s_188_199, s_188_200, s_188_203, s_188_205, s_188_208, s_188_209, s_188_210, s_188_212, s_188_215, s_188_216, s_188_218, s_188_220, s_188_223, s_188_224, s_188_225, s_188_228, s_188_229, s_188_230, s_188_233, s_188_234, s_188_236, s_188_238, s_188_241, s_188_242, s_188_244, s_188_246, s_188_249, s_188_250, s_188_252, s_188_254, s_188_257, s_188_258, s_188_260, s_188_262, s_188_265, s_188_266, s_188_268, s_188_270, s_188_273, s_188_274, s_188_276, s_188_278, s_188_281, s_188_282, s_188_283, s_188_286, s_188_287, s_188_288, s_188_291, s_188_292, s_188_293, s_188_296, s_188_297, s_188_298, s_188_300, s_188_303, s_188_304, s_188_306, s_188_308, s_188_311, s_188_312, s_188_315, s_188_317, s_188_320, s_188_321, s_188_324, s_188_326, s_188_329, s_188_330, s_188_333, s_188_335, s_188_338, s_188_339, s_188_342, s_188_344, s_188_347, s_188_348, s_188_351, s_188_353, s_188_356, s_188_357, s_188_360, s_188_362, s_188_365, s_188_366, s_188_368, s_188_370, s_188_373, s_188_374, s_188_376, s_188_378, s_188_381, s_188_382, s_188_384, s_188_386, s_188_389, s_188_390, s_188_392, s_188_394, s_188_397, s_188_398, s_188_399, s_188_401, s_188_404, s_188_405, s_188_408, s_188_410, s_188_413, s_188_414, s_188_417, s_188_419, s_188_422, s_188_423, s_188_424, s_188_426, s_188_429, s_188_430, s_188_432, s_188_434, s_188_437, s_188_438, s_188_440, s_188_442, s_188_445, s_188_446, s_188_448, s_188_450, s_188_453, s_188_454, s_188_457, s_188_459, s_188_462, s_188_463, s_188_465, s_188_467, s_188_470, s_188_471, s_188_473, s_188_475, s_188_478, s_188_479, s_188_481, s_188_483, s_188_486, s_188_487, s_188_488, s_188_490, s_188_493, s_188_494, s_188_495, s_188_498, s_188_499, s_188_502, s_188_503, s_188_506, o_187, ob_61, sh_61, sh_62, sh_63, sh_64, sh_65, sh_66, sh_67, sh_68, sh_69, sh_70, sh_71, sh_72, sh_73, sh_74, sh_75, sh_76, sh_77, sh_78, sh_79, sh_80, sh_81, sh_82, sh_83, sh_84, sh_85, sh_86, sh_87, sh_88, sh_89, sh_90, sh_91, sh_92, sh_93, sh_94, sh_95, sh_96, sh_97, sh_98, sh_99, sh_100, sh_101, sh_102, sh_103, sh_104, sh_105, sh_106, sh_107, sh_108, sh_109, sh_110, sh_111, sh_112, sh_113, sh_114, sh_115, sh_116, sh_117, sh_118, kI_eq, kL_eq, kV_eq, stk_n, stk_i, stk_r, stk_l, stA, zrA, rowA, filA, Nat.reduceAdd, Nat.reduceSub, Nat.reduceEqDiff, Nat.reduceLeDiff, Nat.reduceLT, Int.reduceToNat, Int.reduceNeg, Int.reduceLT, Int.reduceLE, Int.reduceEq, Int.reduceAdd, Int.reduceSub, Int.reduceMul, true_and, and_true, false_and, and_false, if_true, if_false, not_true_eq_false, not_false_eq_true, true_implies, false_implies, forall_const, and_self, eq_self, reduceIte, Int.toNat_natCast, true_or, or_true, false_or, or_false, Nat.zero_add, Nat.add_zero, Nat.le_refl]
  refine bm_ok (rb := 0) (by omega) (by omega) _ ?_ rfl (fun M1 p1 => ?_)
  · unfold GM gmL
    repeat refine List.forall_mem_cons.mpr ⟨rfl, ?_⟩
    exact fun _ h => absurd h List.not_mem_nil
  obtain ⟨b1, b2, b3, b4, b5, b6⟩ := p1
  have h61 := b1 61 (by omega)
  have hFr : ∀ q ∈ frM, M1 61 q.1 = q.2 := by
    rw [h61]
    unfold frM
    repeat refine List.forall_mem_cons.mpr ⟨rfl, ?_⟩
    exact fun _ h => absurd h List.not_mem_nil
  have hro : ∀ c, c < 61 ∨ 1000 ≤ c → M1 c = M c := by
    intro c hc
    rw [b1 c (by omega)]
    funext b
    rcases hc with hc | hc
    · have e : ∀ k, (c = k + 61) = False := fun k => by simp; omega
      simp only [stA, zrA, e 0, show ∀ k, (c = k + 61) = False from e, kI_eq, kL_eq, kV_eq, stk_n, stk_i, stk_r, stk_l, stA, zrA, rowA, filA, Nat.reduceAdd, Nat.reduceSub, Nat.reduceEqDiff, Nat.reduceLeDiff, Nat.reduceLT, Int.reduceToNat, Int.reduceNeg, Int.reduceLT, Int.reduceLE, Int.reduceEq, Int.reduceAdd, Int.reduceSub, Int.reduceMul, true_and, and_true, false_and, and_false, if_true, if_false, not_true_eq_false, not_false_eq_true, true_implies, false_implies, forall_const, and_self, eq_self, reduceIte, Int.toNat_natCast, true_or, or_true, false_or, or_false, Nat.zero_add, Nat.add_zero, Nat.le_refl]
    · obtain ⟨d, rfl⟩ : ∃ d, c = d + 1000 := ⟨c - 1000, by omega⟩
      simp only [kI_eq, kL_eq, kV_eq, stk_n, stk_i, stk_r, stk_l, stA, zrA, rowA, filA, Nat.reduceAdd, Nat.reduceSub, Nat.reduceEqDiff, Nat.reduceLeDiff, Nat.reduceLT, Int.reduceToNat, Int.reduceNeg, Int.reduceLT, Int.reduceLE, Int.reduceEq, Int.reduceAdd, Int.reduceSub, Int.reduceMul, true_and, and_true, false_and, and_false, if_true, if_false, not_true_eq_false, not_false_eq_true, true_implies, false_implies, forall_const, and_self, eq_self, reduceIte, Int.toNat_natCast, true_or, or_true, false_or, or_false, Nat.zero_add, Nat.add_zero, Nat.le_refl]
  simp only [s_188_0, s_188_1, s_188_4, s_188_5, s_188_8, s_188_10, s_188_13, s_188_14, s_188_17, s_188_19, s_188_22, s_188_23, s_188_24, s_188_27, s_188_28, s_188_29, s_188_31, s_188_34, s_188_35, s_188_36, s_188_38, s_188_41, s_188_42, s_188_43, s_188_45, s_188_48, s_188_49, s_188_50, s_188_52, s_188_55, s_188_56, s_188_57, s_188_59, s_188_62, s_188_63, s_188_66, s_188_68, s_188_71, s_188_72, s_188_74, s_188_76, s_188_79, s_188_80, s_188_82, s_188_84, s_188_87, s_188_88, s_188_90, s_188_92, s_188_95, s_188_96, s_188_98, s_188_100, s_188_103, s_188_104, s_188_106, s_188_108, s_188_111, s_188_112, s_188_114, s_188_116, s_188_119, s_188_120, s_188_122, s_188_124, s_188_127, s_188_128, s_188_130, s_188_132, s_188_135, s_188_136, s_188_138, s_188_140, s_188_143, s_188_144, s_188_146, s_188_148, s_188_151, s_188_152, s_188_154, s_188_156, s_188_159, s_188_160, s_188_162, s_188_164, s_188_167, s_188_168, s_188_170, s_188_172, s_188_175, s_188_176, s_188_178, s_188_180, s_188_183, s_188_184, s_188_186, s_188_188, s_188_191, s_188_192, s_188_194, s_188_196, s_188_199, s_188_200, s_188_203, s_188_205, s_188_208, s_188_209, s_188_210, s_188_212, s_188_215, s_188_216, s_188_218, s_188_220, s_188_223, s_188_224, s_188_225, s_188_228, s_188_229, s_188_230, s_188_233, s_188_234, s_188_236, s_188_238, s_188_241, s_188_242, s_188_244, s_188_246, s_188_249, s_188_250, s_188_252, s_188_254, s_188_257, s_188_258, s_188_260, s_188_262, s_188_265, s_188_266, s_188_268, s_188_270, s_188_273, s_188_274, s_188_276, s_188_278, s_188_281, s_188_282, s_188_283, s_188_286, s_188_287, s_188_288, s_188_291, s_188_292, s_188_293, s_188_296, s_188_297, s_188_298, s_188_300, s_188_303, s_188_304, s_188_306, s_188_308, s_188_311, s_188_312, s_188_315, s_188_317, s_188_320, s_188_321, s_188_324, s_188_326, s_188_329, s_188_330, s_188_333, s_188_335, s_188_338, s_188_339, s_188_342, s_188_344, s_188_347, s_188_348, s_188_351, s_188_353, s_188_356, s_188_357, s_188_360, s_188_362, s_188_365, s_188_366, s_188_368, s_188_370, s_188_373, s_188_374, s_188_376, s_188_378, s_188_381, s_188_382, s_188_384, s_188_386, s_188_389, s_188_390, s_188_392, s_188_394, s_188_397, s_188_398, s_188_399, s_188_401, s_188_404, s_188_405, s_188_408, s_188_410, s_188_413, s_188_414, s_188_417, s_188_419, s_188_422, s_188_423, s_188_424, s_188_426, s_188_429, s_188_430, s_188_432, s_188_434, s_188_437, s_188_438, s_188_440, s_188_442, s_188_445, s_188_446, s_188_448, s_188_450, s_188_453, s_188_454, s_188_457, s_188_459, s_188_462, s_188_463, s_188_465, s_188_467, s_188_470, s_188_471, s_188_473, s_188_475, s_188_478, s_188_479, s_188_481, s_188_483, s_188_486, s_188_487, s_188_488, s_188_490, s_188_493, s_188_494, s_188_495, s_188_498, s_188_499, s_188_502, s_188_503, s_188_506, o_281, ob_61, sh_61, sh_62, sh_63, sh_64, sh_65, sh_66, sh_67, sh_68, sh_69, sh_70, sh_71, sh_72, sh_73, sh_74, sh_75, sh_76, sh_77, sh_78, sh_79, sh_80, sh_81, sh_82, sh_83, sh_84, sh_85, sh_86, sh_87, sh_88, sh_89, sh_90, sh_91, sh_92, sh_93, sh_94, sh_95, sh_96, sh_97, sh_98, sh_99, sh_100, sh_101, sh_102, sh_103, sh_104, sh_105, sh_106, sh_107, sh_108, sh_109, sh_110, sh_111, sh_112, sh_113, sh_114, sh_115, sh_116, sh_117, sh_118, kI_eq, kL_eq, kV_eq, stk_n, stk_i, stk_r, stk_l, stA, zrA, rowA, filA, Nat.reduceAdd, Nat.reduceSub, Nat.reduceEqDiff, Nat.reduceLeDiff, Nat.reduceLT, Int.reduceToNat, Int.reduceNeg, Int.reduceLT, Int.reduceLE, Int.reduceEq, Int.reduceAdd, Int.reduceSub, Int.reduceMul, true_and, and_true, false_and, and_false, if_true, if_false, not_true_eq_false, not_false_eq_true, true_implies, false_implies, forall_const, and_self, eq_self, reduceIte, Int.toNat_natCast, true_or, or_true, false_or, or_false, Nat.zero_add, Nat.add_zero, Nat.le_refl]
  refine ms_ok (bk := 0) (by omega) (by omega) M1 (fun q hq => hFr q ((by decide : ∀ q ∈ gmL, q ∈ frM) q hq)) (hFr (34, 0) (by decide)) ((b2 67 (by omega) (by omega)).1) (fun M2 f2 c2 => ?_)
  simp only [s_188_0, s_188_1, s_188_4, s_188_5, s_188_8, s_188_10, s_188_13, s_188_14, s_188_17, s_188_19, s_188_22, s_188_23, s_188_24, s_188_27, s_188_28, s_188_29, s_188_31, s_188_34, s_188_35, s_188_36, s_188_38, s_188_41, s_188_42, s_188_43, s_188_45, s_188_48, s_188_49, s_188_50, s_188_52, s_188_55, s_188_56, s_188_57, s_188_59, s_188_62, s_188_63, s_188_66, s_188_68, s_188_71, s_188_72, s_188_74, s_188_76, s_188_79, s_188_80, s_188_82, s_188_84, s_188_87, s_188_88, s_188_90, s_188_92, s_188_95, s_188_96, s_188_98, s_188_100, s_188_103, s_188_104, s_188_106, s_188_108, s_188_111, s_188_112, s_188_114, s_188_116, s_188_119, s_188_120, s_188_122, s_188_124, s_188_127, s_188_128, s_188_130, s_188_132, s_188_135, s_188_136, s_188_138, s_188_140, s_188_143, s_188_144, s_188_146, s_188_148, s_188_151, s_188_152, s_188_154, s_188_156, s_188_159, s_188_160, s_188_162, s_188_164, s_188_167, s_188_168, s_188_170, s_188_172, s_188_175, s_188_176, s_188_178, s_188_180, s_188_183, s_188_184, s_188_186, s_188_188, s_188_191, s_188_192, s_188_194, s_188_196, s_188_199, s_188_200, s_188_203, s_188_205, s_188_208, s_188_209, s_188_210, s_188_212, s_188_215, s_188_216, s_188_218, s_188_220, s_188_223, s_188_224, s_188_225, s_188_228, s_188_229, s_188_230, s_188_233, s_188_234, s_188_236, s_188_238, s_188_241, s_188_242, s_188_244, s_188_246, s_188_249, s_188_250, s_188_252, s_188_254, s_188_257, s_188_258, s_188_260, s_188_262, s_188_265, s_188_266, s_188_268, s_188_270, s_188_273, s_188_274, s_188_276, s_188_278, s_188_281, s_188_282, s_188_283, s_188_286, s_188_287, s_188_288, s_188_291, s_188_292, s_188_293, s_188_296, s_188_297, s_188_298, s_188_300, s_188_303, s_188_304, s_188_306, s_188_308, s_188_311, s_188_312, s_188_315, s_188_317, s_188_320, s_188_321, s_188_324, s_188_326, s_188_329, s_188_330, s_188_333, s_188_335, s_188_338, s_188_339, s_188_342, s_188_344, s_188_347, s_188_348, s_188_351, s_188_353, s_188_356, s_188_357, s_188_360, s_188_362, s_188_365, s_188_366, s_188_368, s_188_370, s_188_373, s_188_374, s_188_376, s_188_378, s_188_381, s_188_382, s_188_384, s_188_386, s_188_389, s_188_390, s_188_392, s_188_394, s_188_397, s_188_398, s_188_399, s_188_401, s_188_404, s_188_405, s_188_408, s_188_410, s_188_413, s_188_414, s_188_417, s_188_419, s_188_422, s_188_423, s_188_424, s_188_426, s_188_429, s_188_430, s_188_432, s_188_434, s_188_437, s_188_438, s_188_440, s_188_442, s_188_445, s_188_446, s_188_448, s_188_450, s_188_453, s_188_454, s_188_457, s_188_459, s_188_462, s_188_463, s_188_465, s_188_467, s_188_470, s_188_471, s_188_473, s_188_475, s_188_478, s_188_479, s_188_481, s_188_483, s_188_486, s_188_487, s_188_488, s_188_490, s_188_493, s_188_494, s_188_495, s_188_498, s_188_499, s_188_502, s_188_503, s_188_506, kI_eq, kL_eq, kV_eq, stk_n, stk_i, stk_r, stk_l, stA, zrA, rowA, filA, Nat.reduceAdd, Nat.reduceSub, Nat.reduceEqDiff, Nat.reduceLeDiff, Nat.reduceLT, Int.reduceToNat, Int.reduceNeg, Int.reduceLT, Int.reduceLE, Int.reduceEq, Int.reduceAdd, Int.reduceSub, Int.reduceMul, true_and, and_true, false_and, and_false, if_true, if_false, not_true_eq_false, not_false_eq_true, true_implies, false_implies, forall_const, and_self, eq_self, reduceIte, Int.toNat_natCast, true_or, or_true, false_or, or_false, Nat.zero_add, Nat.add_zero, Nat.le_refl]
  refine K M2 ⟨fun q hq => by rw [f2 61 (by decide)]; exact hFr q hq, fun c h1 h2 => by rw [f2 c (by omega)]; exact (b2 c h1 h2).1, fun i hi => by rw [f2 69 (by decide)]; exact (b3 i (by omega) (by omega)).1, fun i hi => by rw [f2 70 (by decide)]; exact b4 i (by omega) (by omega), fun i hi => by rw [f2 71 (by decide), f2 72 (by decide), f2 73 (by decide)]; exact b6 i (by omega) (by omega), c2⟩ (fun c hc => by rw [f2 c (by omega)]; exact hro c hc)
