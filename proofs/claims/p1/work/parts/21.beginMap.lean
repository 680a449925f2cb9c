set_option maxHeartbeats 4000000 in
theorem bm3 {O : pO} {n0 : Nat} {Q : pQ} {rb : Int} (h0 : 0 ≤ rb) (h1 : rb ≤ 1) (M0 : pM) (hG : GM M0) (hrb : M0 61 35 = rb) (l2 : Option pv) (K : ∀ M' : pM, (∀ c, c ≠ 71 → c ≠ 72 → c ≠ 73 → M' c = M0 c) → (∀ i : Nat, 6 * rb ≤ i → (i : Int) < 6 * rb + 6 → M' 71 i = -1 ∧ M' 72 i = 0 ∧ M' 73 i = -1) → 119 = n0 ∧ Q none M') : J O 187 n0 Q 158 [some (vr 62), some (vi 0), l2] [] 119 M0 := by
  refine cnt 6 (fun k M' => (∀ c, c ≠ 71 → c ≠ 72 → c ≠ 73 → M' c = M0 c) ∧ ∀ i : Nat, 6 * rb ≤ i → (i : Int) < 6 * rb + k → M' 71 i = -1 ∧ M' 72 i = 0 ∧ M' 73 i = -1) (fun k M' => J O 187 n0 Q 158 [some (vr 62), some (vi (k : Int)), l2] [] 119 M') ?_ ?_ 0 M0 (by omega) ⟨fun _ _ _ _ => rfl, fun i h1 h2 => by omega⟩
  · intro M' hi
    rw [s_187_158]
    have hN : (6 : Int) ≤ ((6 : Nat) : Int) := by decide
    simp only [hN, s_187_0, s_187_1, s_187_4, s_187_5, s_187_8, s_187_9, s_187_10, s_187_11, s_187_14, s_187_15, s_187_18, s_187_19, s_187_20, s_187_21, s_187_24, s_187_25, s_187_28, s_187_29, s_187_30, s_187_31, s_187_34, s_187_35, s_187_38, s_187_39, s_187_40, s_187_41, s_187_44, s_187_45, s_187_48, s_187_49, s_187_50, s_187_51, s_187_53, s_187_55, s_187_58, s_187_59, s_187_62, s_187_64, s_187_65, s_187_68, s_187_69, s_187_70, s_187_71, s_187_72, s_187_73, s_187_74, s_187_77, s_187_79, s_187_80, s_187_83, s_187_84, s_187_85, s_187_86, s_187_87, s_187_88, s_187_91, s_187_94, s_187_95, s_187_97, s_187_99, s_187_102, s_187_103, s_187_106, s_187_107, s_187_108, s_187_109, s_187_110, s_187_113, s_187_114, s_187_115, s_187_116, s_187_117, s_187_119, s_187_121, s_187_124, s_187_125, s_187_128, s_187_130, s_187_131, s_187_134, s_187_135, s_187_137, s_187_138, s_187_139, s_187_140, s_187_141, s_187_142, s_187_143, s_187_144, s_187_147, s_187_150, s_187_153, s_187_156, s_187_157, s_187_159, s_187_161, s_187_164, s_187_165, s_187_168, s_187_170, s_187_171, s_187_174, s_187_175, s_187_176, s_187_177, s_187_178, s_187_179, s_187_180, s_187_183, s_187_185, s_187_186, s_187_189, s_187_190, s_187_191, s_187_192, s_187_193, s_187_194, s_187_195, s_187_198, s_187_200, s_187_201, s_187_204, s_187_205, s_187_206, s_187_207, s_187_208, s_187_209, s_187_212, s_187_215, kI_eq, kL_eq, kV_eq, stk_n, stk_i, stk_r, stk_l, stA, zrA, rowA, filA, Nat.reduceAdd, Nat.reduceSub, Nat.reduceEqDiff, Nat.reduceLeDiff, Nat.reduceLT, Int.reduceToNat, Int.reduceNeg, Int.reduceLT, Int.reduceLE, Int.reduceEq, Int.reduceAdd, Int.reduceSub, Int.reduceMul, true_and, and_true, false_and, and_false, if_true, if_false, not_true_eq_false, not_false_eq_true, true_implies, false_implies, forall_const, and_self, eq_self, reduceIte, Int.toNat_natCast, true_or, or_true, false_or, or_false, Nat.zero_add, Nat.add_zero, Nat.le_refl]
    exact K M' hi.1 (fun i q1 q2 => hi.2 i q1 q2)
  · intro k M' hk hi ih
    obtain ⟨hf, hc⟩ := hi
    have h61 : M' 61 = M0 61 := hf 61 (by decide) (by decide) (by decide)
    have g35 : M' 61 35 = rb := by rw [h61]; exact hrb
    have g18 : M' 61 18 = 72 := by rw [h61]; exact gm_18 hG
    have g19 : M' 61 19 = 73 := by rw [h61]; exact gm_19 hG
    have g20 : M' 61 20 = 74 := by rw [h61]; exact gm_20 hG
    have e1 : w32 (w32 (6 * rb) + (k : Int)) = 6 * rb + k := by unfold w32; omega
    have hk1 : ¬ ((6 : Int) ≤ (k : Int)) := by omega
    have e2 := w32_s (k := k) (by omega)
    rw [s_187_158]
    simp only [s_187_0, s_187_1, s_187_4, s_187_5, s_187_8, s_187_9, s_187_10, s_187_11, s_187_14, s_187_15, s_187_18, s_187_19, s_187_20, s_187_21, s_187_24, s_187_25, s_187_28, s_187_29, s_187_30, s_187_31, s_187_34, s_187_35, s_187_38, s_187_39, s_187_40, s_187_41, s_187_44, s_187_45, s_187_48, s_187_49, s_187_50, s_187_51, s_187_53, s_187_55, s_187_58, s_187_59, s_187_62, s_187_64, s_187_65, s_187_68, s_187_69, s_187_70, s_187_71, s_187_72, s_187_73, s_187_74, s_187_77, s_187_79, s_187_80, s_187_83, s_187_84, s_187_85, s_187_86, s_187_87, s_187_88, s_187_91, s_187_94, s_187_95, s_187_97, s_187_99, s_187_102, s_187_103, s_187_106, s_187_107, s_187_108, s_187_109, s_187_110, s_187_113, s_187_114, s_187_115, s_187_116, s_187_117, s_187_119, s_187_121, s_187_124, s_187_125, s_187_128, s_187_130, s_187_131, s_187_134, s_187_135, s_187_137, s_187_138, s_187_139, s_187_140, s_187_141, s_187_142, s_187_143, s_187_144, s_187_147, s_187_150, s_187_153, s_187_156, s_187_157, s_187_159, s_187_161, s_187_164, s_187_165, s_187_168, s_187_170, s_187_171, s_187_174, s_187_175, s_187_176, s_187_177, s_187_178, s_187_179, s_187_180, s_187_183, s_187_185, s_187_186, s_187_189, s_187_190, s_187_191, s_187_192, s_187_193, s_187_194, s_187_195, s_187_198, s_187_200, s_187_201, s_187_204, s_187_205, s_187_206, s_187_207, s_187_208, s_187_209, s_187_212, s_187_215, g18, g19, g20, g35, e1, e2, hk1, ob9_61, aw9_71, aw9_72, aw9_73, kI_eq, kL_eq, kV_eq, stk_n, stk_i, stk_r, stk_l, stA, zrA, rowA, filA, Nat.reduceAdd, Nat.reduceSub, Nat.reduceEqDiff, Nat.reduceLeDiff, Nat.reduceLT, Int.reduceToNat, Int.reduceNeg, Int.reduceLT, Int.reduceLE, Int.reduceEq, Int.reduceAdd, Int.reduceSub, Int.reduceMul, true_and, and_true, false_and, and_false, if_true, if_false, not_true_eq_false, not_false_eq_true, true_implies, false_implies, forall_const, and_self, eq_self, reduceIte, Int.toNat_natCast, true_or, or_true, false_or, or_false, Nat.zero_add, Nat.add_zero, Nat.le_refl]
    refine ⟨by omega, by omega, by omega, by omega, by omega, by omega, ih _ ⟨fun c q1 q2 q3 => by rw [st_row q3, st_row q2, st_row q1]; exact hf c q1 q2 q3, fun i q1 q2 => ?_⟩⟩
    by_cases hik : i = (6 * rb + (k : Int)).toNat
    · subst hik; simp [stA]
    · have := hc i q1 (by omega)
      simp [stA, hik]
      exact this
set_option maxHeartbeats 4000000 in
theorem bm2i {O : pO} {n0 : Nat} {Q : pQ} {rb : Int} (h0 : 0 ≤ rb) (h1 : rb ≤ 1) (M0 : pM) (hG : GM M0) (hrb : M0 61 35 = rb) (j : Nat) (hj : j < 8) (hz : ∀ i : Nat, 48 * rb ≤ i → (i : Int) < 48 * rb + 6 * j → M0 70 i = 0) (K : ∀ M' : pM, (∀ c, c ≠ 70 → M' c = M0 c) → (∀ i : Nat, 48 * rb ≤ i → (i : Int) < 48 * rb + 6 * (j + 1 : Nat) → M' 70 i = 0) → J O 187 n0 Q 150 [some (vr 62), some (vi (j : Int)), some (vi 6)] [] 119 M') : J O 187 n0 Q 118 [some (vr 62), some (vi (j : Int)), some (vi 0)] [] 119 M0 := by
  refine cnt 6 (fun k M' => (∀ c, c ≠ 70 → M' c = M0 c) ∧ ∀ i : Nat, 48 * rb ≤ i → (i : Int) < 48 * rb + 6 * j + k → M' 70 i = 0) (fun k M' => J O 187 n0 Q 118 [some (vr 62), some (vi (j : Int)), some (vi (k : Int))] [] 119 M') ?_ ?_ 0 M0 (by omega) ⟨fun _ _ => rfl, fun i h1 h2 => hz i h1 (by omega)⟩
  · intro M' hi
    rw [s_187_118]
    have hN : (6 : Int) ≤ ((6 : Nat) : Int) := by decide
    simp only [hN, s_187_0, s_187_1, s_187_4, s_187_5, s_187_8, s_187_9, s_187_10, s_187_11, s_187_14, s_187_15, s_187_18, s_187_19, s_187_20, s_187_21, s_187_24, s_187_25, s_187_28, s_187_29, s_187_30, s_187_31, s_187_34, s_187_35, s_187_38, s_187_39, s_187_40, s_187_41, s_187_44, s_187_45, s_187_48, s_187_49, s_187_50, s_187_51, s_187_53, s_187_55, s_187_58, s_187_59, s_187_62, s_187_64, s_187_65, s_187_68, s_187_69, s_187_70, s_187_71, s_187_72, s_187_73, s_187_74, s_187_77, s_187_79, s_187_80, s_187_83, s_187_84, s_187_85, s_187_86, s_187_87, s_187_88, s_187_91, s_187_94, s_187_95, s_187_97, s_187_99, s_187_102, s_187_103, s_187_106, s_187_107, s_187_108, s_187_109, s_187_110, s_187_113, s_187_114, s_187_115, s_187_116, s_187_117, s_187_119, s_187_121, s_187_124, s_187_125, s_187_128, s_187_130, s_187_131, s_187_134, s_187_135, s_187_137, s_187_138, s_187_139, s_187_140, s_187_141, s_187_142, s_187_143, s_187_144, s_187_147, s_187_156, s_187_157, s_187_159, s_187_161, s_187_164, s_187_165, s_187_168, s_187_170, s_187_171, s_187_174, s_187_175, s_187_176, s_187_177, s_187_178, s_187_179, s_187_180, s_187_183, s_187_185, s_187_186, s_187_189, s_187_190, s_187_191, s_187_192, s_187_193, s_187_194, s_187_195, s_187_198, s_187_200, s_187_201, s_187_204, s_187_205, s_187_206, s_187_207, s_187_208, s_187_209, s_187_212, s_187_215, kI_eq, kL_eq, kV_eq, stk_n, stk_i, stk_r, stk_l, stA, zrA, rowA, filA, Nat.reduceAdd, Nat.reduceSub, Nat.reduceEqDiff, Nat.reduceLeDiff, Nat.reduceLT, Int.reduceToNat, Int.reduceNeg, Int.reduceLT, Int.reduceLE, Int.reduceEq, Int.reduceAdd, Int.reduceSub, Int.reduceMul, true_and, and_true, false_and, and_false, if_true, if_false, not_true_eq_false, not_false_eq_true, true_implies, false_implies, forall_const, and_self, eq_self, reduceIte, Int.toNat_natCast, true_or, or_true, false_or, or_false, Nat.zero_add, Nat.add_zero, Nat.le_refl]
    exact K M' hi.1 (fun i q1 q2 => hi.2 i q1 (by omega))
  · intro k M' hk hi ih
    obtain ⟨hf, hc⟩ := hi
    have h61 : M' 61 = M0 61 := hf 61 (by decide)
    have g35 : M' 61 35 = rb := by rw [h61]; exact hrb
    have g17 : M' 61 17 = 71 := by rw [h61]; exact gm_17 hG
    have e1 : w32 (w32 (w32 (48 * rb) + w32 (6 * (j : Int))) + (k : Int)) = 48 * rb + 6 * j + k := by unfold w32; omega
    have hk1 : ¬ ((6 : Int) ≤ (k : Int)) := by omega
    have e2 := w32_s (k := k) (by omega)
    rw [s_187_118]
    simp only [s_187_0, s_187_1, s_187_4, s_187_5, s_187_8, s_187_9, s_187_10, s_187_11, s_187_14, s_187_15, s_187_18, s_187_19, s_187_20, s_187_21, s_187_24, s_187_25, s_187_28, s_187_29, s_187_30, s_187_31, s_187_34, s_187_35, s_187_38, s_187_39, s_187_40, s_187_41, s_187_44, s_187_45, s_187_48, s_187_49, s_187_50, s_187_51, s_187_53, s_187_55, s_187_58, s_187_59, s_187_62, s_187_64, s_187_65, s_187_68, s_187_69, s_187_70, s_187_71, s_187_72, s_187_73, s_187_74, s_187_77, s_187_79, s_187_80, s_187_83, s_187_84, s_187_85, s_187_86, s_187_87, s_187_88, s_187_91, s_187_94, s_187_95, s_187_97, s_187_99, s_187_102, s_187_103, s_187_106, s_187_107, s_187_108, s_187_109, s_187_110, s_187_113, s_187_114, s_187_115, s_187_116, s_187_117, s_187_119, s_187_121, s_187_124, s_187_125, s_187_128, s_187_130, s_187_131, s_187_134, s_187_135, s_187_137, s_187_138, s_187_139, s_187_140, s_187_141, s_187_142, s_187_143, s_187_144, s_187_147, s_187_156, s_187_157, s_187_159, s_187_161, s_187_164, s_187_165, s_187_168, s_187_170, s_187_171, s_187_174, s_187_175, s_187_176, s_187_177, s_187_178, s_187_179, s_187_180, s_187_183, s_187_185, s_187_186, s_187_189, s_187_190, s_187_191, s_187_192, s_187_193, s_187_194, s_187_195, s_187_198, s_187_200, s_187_201, s_187_204, s_187_205, s_187_206, s_187_207, s_187_208, s_187_209, s_187_212, s_187_215, g17, g35, e1, e2, hk1, ob9_61, aw9_70, kI_eq, kL_eq, kV_eq, stk_n, stk_i, stk_r, stk_l, stA, zrA, rowA, filA, Nat.reduceAdd, Nat.reduceSub, Nat.reduceEqDiff, Nat.reduceLeDiff, Nat.reduceLT, Int.reduceToNat, Int.reduceNeg, Int.reduceLT, Int.reduceLE, Int.reduceEq, Int.reduceAdd, Int.reduceSub, Int.reduceMul, true_and, and_true, false_and, and_false, if_true, if_false, not_true_eq_false, not_false_eq_true, true_implies, false_implies, forall_const, and_self, eq_self, reduceIte, Int.toNat_natCast, true_or, or_true, false_or, or_false, Nat.zero_add, Nat.add_zero, Nat.le_refl]
    refine ⟨by omega, by omega, ih _ ⟨fun c q1 => by rw [st_row q1]; exact hf c q1, fun i q1 q2 => ?_⟩⟩
    by_cases hik : i = (48 * rb + 6 * (j : Int) + (k : Int)).toNat
    · subst hik; simp [stA]
    · have := hc i q1 (by omega)
      simp [stA, hik]
      exact this
set_option maxHeartbeats 4000000 in
theorem bm2 {O : pO} {n0 : Nat} {Q : pQ} {rb : Int} (h0 : 0 ≤ rb) (h1 : rb ≤ 1) (M0 : pM) (hG : GM M0) (hrb : M0 61 35 = rb) (l2 : Option pv) (K : ∀ (M' : pM) (l2 : Option pv), (∀ c, c ≠ 70 → c ≠ 84 → c ≠ 85 → M' c = M0 c) → (∀ i : Nat, 48 * rb ≤ i → (i : Int) < 48 * rb + 48 → M' 70 i = 0) → (∀ i : Nat, i < 8 → M' 84 i = 0 ∧ M' 85 i = 0) → J O 187 n0 Q 156 [some (vr 62), some (vi 8), l2] [] 119 M') : J O 187 n0 Q 96 [some (vr 62), some (vi 0), l2] [] 119 M0 := by
  refine cnt 8 (fun k M' => (∀ c, c ≠ 70 → c ≠ 84 → c ≠ 85 → M' c = M0 c) ∧ (∀ i : Nat, 48 * rb ≤ i → (i : Int) < 48 * rb + 6 * k → M' 70 i = 0) ∧ ∀ i : Nat, i < k → M' 84 i = 0 ∧ M' 85 i = 0) (fun k M' => ∀ l2 : Option pv, J O 187 n0 Q 96 [some (vr 62), some (vi (k : Int)), l2] [] 119 M') ?_ ?_ 0 M0 (by omega) ⟨fun _ _ _ _ => rfl, fun i h1 h2 => by omega, fun i h => by omega⟩ l2
  · intro M' hi l2
    rw [s_187_96]
    have hN : (8 : Int) ≤ ((8 : Nat) : Int) := by decide
    simp only [hN, s_187_0, s_187_1, s_187_4, s_187_5, s_187_8, s_187_9, s_187_10, s_187_11, s_187_14, s_187_15, s_187_18, s_187_19, s_187_20, s_187_21, s_187_24, s_187_25, s_187_28, s_187_29, s_187_30, s_187_31, s_187_34, s_187_35, s_187_38, s_187_39, s_187_40, s_187_41, s_187_44, s_187_45, s_187_48, s_187_49, s_187_50, s_187_51, s_187_53, s_187_55, s_187_58, s_187_59, s_187_62, s_187_64, s_187_65, s_187_68, s_187_69, s_187_70, s_187_71, s_187_72, s_187_73, s_187_74, s_187_77, s_187_79, s_187_80, s_187_83, s_187_84, s_187_85, s_187_86, s_187_87, s_187_88, s_187_91, s_187_94, s_187_95, s_187_97, s_187_99, s_187_102, s_187_103, s_187_106, s_187_107, s_187_108, s_187_109, s_187_110, s_187_113, s_187_114, s_187_115, s_187_116, s_187_117, s_187_119, s_187_121, s_187_124, s_187_125, s_187_128, s_187_130, s_187_131, s_187_134, s_187_135, s_187_137, s_187_138, s_187_139, s_187_140, s_187_141, s_187_142, s_187_143, s_187_144, s_187_147, s_187_150, s_187_153, s_187_157, s_187_159, s_187_161, s_187_164, s_187_165, s_187_168, s_187_170, s_187_171, s_187_174, s_187_175, s_187_176, s_187_177, s_187_178, s_187_179, s_187_180, s_187_183, s_187_185, s_187_186, s_187_189, s_187_190, s_187_191, s_187_192, s_187_193, s_187_194, s_187_195, s_187_198, s_187_200, s_187_201, s_187_204, s_187_205, s_187_206, s_187_207, s_187_208, s_187_209, s_187_212, s_187_215, kI_eq, kL_eq, kV_eq, stk_n, stk_i, stk_r, stk_l, stA, zrA, rowA, filA, Nat.reduceAdd, Nat.reduceSub, Nat.reduceEqDiff, Nat.reduceLeDiff, Nat.reduceLT, Int.reduceToNat, Int.reduceNeg, Int.reduceLT, Int.reduceLE, Int.reduceEq, Int.reduceAdd, Int.reduceSub, Int.reduceMul, true_and, and_true, false_and, and_false, if_true, if_false, not_true_eq_false, not_false_eq_true, true_implies, false_implies, forall_const, and_self, eq_self, reduceIte, Int.toNat_natCast, true_or, or_true, false_or, or_false, Nat.zero_add, Nat.add_zero, Nat.le_refl]
    exact K M' l2 hi.1 (fun i q1 q2 => hi.2.1 i q1 (by omega)) hi.2.2
  · intro k M' hk hi ih l2
    obtain ⟨hf, hc, hd⟩ := hi
    have h61 : M' 61 = M0 61 := hf 61 (by decide) (by decide) (by decide)
    have g35 : M' 61 35 = rb := by rw [h61]; exact hrb
    have g31 : M' 61 31 = 85 := by rw [h61]; exact gm_31 hG
    have g32 : M' 61 32 = 86 := by rw [h61]; exact gm_32 hG
    have hk1 : ¬ ((8 : Int) ≤ (k : Int)) := by omega
    have hk2 : (0 : Int) ≤ (k : Int) := by omega
    have hk3 : (k : Int) < 8 := by omega
    have hk4 : ¬ ((k : Int) < -1) := by omega
    have e2 := w32_s (k := k) (by omega)
    rw [s_187_96]
    simp only [s_187_0, s_187_1, s_187_4, s_187_5, s_187_8, s_187_9, s_187_10, s_187_11, s_187_14, s_187_15, s_187_18, s_187_19, s_187_20, s_187_21, s_187_24, s_187_25, s_187_28, s_187_29, s_187_30, s_187_31, s_187_34, s_187_35, s_187_38, s_187_39, s_187_40, s_187_41, s_187_44, s_187_45, s_187_48, s_187_49, s_187_50, s_187_51, s_187_53, s_187_55, s_187_58, s_187_59, s_187_62, s_187_64, s_187_65, s_187_68, s_187_69, s_187_70, s_187_71, s_187_72, s_187_73, s_187_74, s_187_77, s_187_79, s_187_80, s_187_83, s_187_84, s_187_85, s_187_86, s_187_87, s_187_88, s_187_91, s_187_94, s_187_95, s_187_97, s_187_99, s_187_102, s_187_103, s_187_106, s_187_107, s_187_108, s_187_109, s_187_110, s_187_113, s_187_114, s_187_115, s_187_116, s_187_117, s_187_119, s_187_121, s_187_124, s_187_125, s_187_128, s_187_130, s_187_131, s_187_134, s_187_135, s_187_137, s_187_138, s_187_139, s_187_140, s_187_141, s_187_142, s_187_143, s_187_144, s_187_147, s_187_156, s_187_157, s_187_159, s_187_161, s_187_164, s_187_165, s_187_168, s_187_170, s_187_171, s_187_174, s_187_175, s_187_176, s_187_177, s_187_178, s_187_179, s_187_180, s_187_183, s_187_185, s_187_186, s_187_189, s_187_190, s_187_191, s_187_192, s_187_193, s_187_194, s_187_195, s_187_198, s_187_200, s_187_201, s_187_204, s_187_205, s_187_206, s_187_207, s_187_208, s_187_209, s_187_212, s_187_215, g31, g32, g35, hk1, hk2, hk3, hk4, ob9_61, aw9_84, ax_84, aw9_85, ax_85, kI_eq, kL_eq, kV_eq, stk_n, stk_i, stk_r, stk_l, stA, zrA, rowA, filA, Nat.reduceAdd, Nat.reduceSub, Nat.reduceEqDiff, Nat.reduceLeDiff, Nat.reduceLT, Int.reduceToNat, Int.reduceNeg, Int.reduceLT, Int.reduceLE, Int.reduceEq, Int.reduceAdd, Int.reduceSub, Int.reduceMul, true_and, and_true, false_and, and_false, if_true, if_false, not_true_eq_false, not_false_eq_true, true_implies, false_implies, forall_const, and_self, eq_self, reduceIte, Int.toNat_natCast, true_or, or_true, false_or, or_false, Nat.zero_add, Nat.add_zero, Nat.le_refl]
    refine bm2i h0 h1 _ (hG.cg (by rw [st_row (by decide), st_row (by decide)]; exact h61)) (by rw [st_row (by decide), st_row (by decide)]; exact g35) k hk (fun i q1 q2 => by rw [st_row (by decide), st_row (by decide)]; exact hc i q1 q2) (fun M'' f1 f2 => ?_)
    simp only [s_187_150, s_187_153, e2]
    refine ih M'' ⟨fun c q1 q2 q3 => by rw [f1 c q1, st_row q3, st_row q2]; exact hf c q1 q2 q3, fun i q1 q2 => f2 i q1 q2, fun i hi => ?_⟩ _
    rw [f1 84 (by decide), f1 85 (by decide)]
    by_cases hik : i = k
    · subst hik; simp [stA]
    · have := hd i (by omega)
      simp [stA, hik]
      exact this
set_option maxHeartbeats 4000000 in
theorem bm1 {O : pO} {n0 : Nat} {Q : pQ} {rb : Int} (h0 : 0 ≤ rb) (h1 : rb ≤ 1) (M0 : pM) (hG : GM M0) (hrb : M0 61 35 = rb) (l2 : Option pv) (K : ∀ M' : pM, (∀ c, c ≠ 69 → c ≠ 86 → M' c = M0 c) → (∀ i : Nat, 64 * rb ≤ i → (i : Int) < 64 * rb + 64 → M' 69 i = 0 ∧ M' 86 i = 0) → J O 187 n0 Q 94 [some (vr 62), some (vi 64), l2] [] 119 M') : J O 187 n0 Q 52 [some (vr 62), some (vi 0), l2] [] 119 M0 := by
  refine cnt 64 (fun k M' => (∀ c, c ≠ 69 → c ≠ 86 → M' c = M0 c) ∧ ∀ i : Nat, 64 * rb ≤ i → (i : Int) < 64 * rb + k → M' 69 i = 0 ∧ M' 86 i = 0) (fun k M' => J O 187 n0 Q 52 [some (vr 62), some (vi (k : Int)), l2] [] 119 M') ?_ ?_ 0 M0 (by omega) ⟨fun _ _ _ => rfl, fun i h1 h2 => by omega⟩
  · intro M' hi
    rw [s_187_52]
    have hN : (64 : Int) ≤ ((64 : Nat) : Int) := by decide
    simp only [hN, s_187_0, s_187_1, s_187_4, s_187_5, s_187_8, s_187_9, s_187_10, s_187_11, s_187_14, s_187_15, s_187_18, s_187_19, s_187_20, s_187_21, s_187_24, s_187_25, s_187_28, s_187_29, s_187_30, s_187_31, s_187_34, s_187_35, s_187_38, s_187_39, s_187_40, s_187_41, s_187_44, s_187_45, s_187_48, s_187_49, s_187_50, s_187_51, s_187_53, s_187_55, s_187_58, s_187_59, s_187_62, s_187_64, s_187_65, s_187_68, s_187_69, s_187_70, s_187_71, s_187_72, s_187_73, s_187_74, s_187_77, s_187_79, s_187_80, s_187_83, s_187_84, s_187_85, s_187_86, s_187_87, s_187_88, s_187_91, s_187_95, s_187_97, s_187_99, s_187_102, s_187_103, s_187_106, s_187_107, s_187_108, s_187_109, s_187_110, s_187_113, s_187_114, s_187_115, s_187_116, s_187_117, s_187_119, s_187_121, s_187_124, s_187_125, s_187_128, s_187_130, s_187_131, s_187_134, s_187_135, s_187_137, s_187_138, s_187_139, s_187_140, s_187_141, s_187_142, s_187_143, s_187_144, s_187_147, s_187_150, s_187_153, s_187_156, s_187_157, s_187_159, s_187_161, s_187_164, s_187_165, s_187_168, s_187_170, s_187_171, s_187_174, s_187_175, s_187_176, s_187_177, s_187_178, s_187_179, s_187_180, s_187_183, s_187_185, s_187_186, s_187_189, s_187_190, s_187_191, s_187_192, s_187_193, s_187_194, s_187_195, s_187_198, s_187_200, s_187_201, s_187_204, s_187_205, s_187_206, s_187_207, s_187_208, s_187_209, s_187_212, s_187_215, kI_eq, kL_eq, kV_eq, stk_n, stk_i, stk_r, stk_l, stA, zrA, rowA, filA, Nat.reduceAdd, Nat.reduceSub, Nat.reduceEqDiff, Nat.reduceLeDiff, Nat.reduceLT, Int.reduceToNat, Int.reduceNeg, Int.reduceLT, Int.reduceLE, Int.reduceEq, Int.reduceAdd, Int.reduceSub, Int.reduceMul, true_and, and_true, false_and, and_false, if_true, if_false, not_true_eq_false, not_false_eq_true, true_implies, false_implies, forall_const, and_self, eq_self, reduceIte, Int.toNat_natCast, true_or, or_true, false_or, or_false, Nat.zero_add, Nat.add_zero, Nat.le_refl]
    exact K M' hi.1 (fun i q1 q2 => hi.2 i q1 q2)
  · intro k M' hk hi ih
    obtain ⟨hf, hc⟩ := hi
    have h61 : M' 61 = M0 61 := hf 61 (by decide) (by decide)
    have g35 : M' 61 35 = rb := by rw [h61]; exact hrb
    have g16 : M' 61 16 = 70 := by rw [h61]; exact gm_16 hG
    have g33 : M' 61 33 = 87 := by rw [h61]; exact gm_33 hG
    have e1 : w32 (w32 (64 * rb) + (k : Int)) = 64 * rb + k := by unfold w32; omega
    have hk1 : ¬ ((64 : Int) ≤ (k : Int)) := by omega
    have hk4 : ¬ (64 * rb + (k : Int) < -1) := by omega
    have e2 := w32_s (k := k) (by omega)
    rw [s_187_52]
    simp only [s_187_0, s_187_1, s_187_4, s_187_5, s_187_8, s_187_9, s_187_10, s_187_11, s_187_14, s_187_15, s_187_18, s_187_19, s_187_20, s_187_21, s_187_24, s_187_25, s_187_28, s_187_29, s_187_30, s_187_31, s_187_34, s_187_35, s_187_38, s_187_39, s_187_40, s_187_41, s_187_44, s_187_45, s_187_48, s_187_49, s_187_50, s_187_51, s_187_53, s_187_55, s_187_58, s_187_59, s_187_62, s_187_64, s_187_65, s_187_68, s_187_69, s_187_70, s_187_71, s_187_72, s_187_73, s_187_74, s_187_77, s_187_79, s_187_80, s_187_83, s_187_84, s_187_85, s_187_86, s_187_87, s_187_88, s_187_91, s_187_95, s_187_97, s_187_99, s_187_102, s_187_103, s_187_106, s_187_107, s_187_108, s_187_109, s_187_110, s_187_113, s_187_114, s_187_115, s_187_116, s_187_117, s_187_119, s_187_121, s_187_124, s_187_125, s_187_128, s_187_130, s_187_131, s_187_134, s_187_135, s_187_137, s_187_138, s_187_139, s_187_140, s_187_141, s_187_142, s_187_143, s_187_144, s_187_147, s_187_150, s_187_153, s_187_156, s_187_157, s_187_159, s_187_161, s_187_164, s_187_165, s_187_168, s_187_170, s_187_171, s_187_174, s_187_175, s_187_176, s_187_177, s_187_178, s_187_179, s_187_180, s_187_183, s_187_185, s_187_186, s_187_189, s_187_190, s_187_191, s_187_192, s_187_193, s_187_194, s_187_195, s_187_198, s_187_200, s_187_201, s_187_204, s_187_205, s_187_206, s_187_207, s_187_208, s_187_209, s_187_212, s_187_215, g16, g33, g35, e1, e2, hk1, hk4, ob9_61, aw9_69, aw9_86, ax_86, kI_eq, kL_eq, kV_eq, stk_n, stk_i, stk_r, stk_l, stA, zrA, rowA, filA, Nat.reduceAdd, Nat.reduceSub, Nat.reduceEqDiff, Nat.reduceLeDiff, Nat.reduceLT, Int.reduceToNat, Int.reduceNeg, Int.reduceLT, Int.reduceLE, Int.reduceEq, Int.reduceAdd, Int.reduceSub, Int.reduceMul, true_and, and_true, false_and, and_false, if_true, if_false, not_true_eq_false, not_false_eq_true, true_implies, false_implies, forall_const, and_self, eq_self, reduceIte, Int.toNat_natCast, true_or, or_true, false_or, or_false, Nat.zero_add, Nat.add_zero, Nat.le_refl]
    refine ⟨by omega, by omega, by omega, by omega, ih _ ⟨fun c q1 q2 => by rw [st_row q2, st_row q1]; exact hf c q1 q2, fun i q1 q2 => ?_⟩⟩
    by_cases hik : i = (64 * rb + (k : Int)).toNat
    · subst hik; simp [stA]
    · have := hc i q1 (by omega)
      simp [stA, hik]
      exact this
/-- what beginMap leaves as it was -/
def bmF (M M' : pM) : Prop := ∀ c, c < 64 ∨ (73 < c ∧ c < 84) ∨ 86 < c → M' c = M c
def bmP (rb : Int) (M M' : pM) : Prop := bmF M M' ∧ (∀ c, 64 ≤ c → c ≤ 68 → M' c rb.toNat = 0 ∧ ∀ i, i ≠ rb.toNat → M' c i = M c i) ∧
  (∀ i : Nat, 64 * rb ≤ i → (i : Int) < 64 * rb + 64 → M' 69 i = 0 ∧ M' 86 i = 0) ∧ (∀ i : Nat, 48 * rb ≤ i → (i : Int) < 48 * rb + 48 → M' 70 i = 0) ∧ (∀ i : Nat, i < 8 → M' 84 i = 0 ∧ M' 85 i = 0) ∧ ∀ i : Nat, 6 * rb ≤ i → (i : Int) < 6 * rb + 6 → M' 71 i = -1 ∧ M' 72 i = 0 ∧ M' 73 i = -1
set_option maxHeartbeats 4000000 in
theorem bm_ok {O : pO} {Q : pQ} {rb : Int} (h0 : 0 ≤ rb) (h1 : rb ≤ 1) (M : pM) (hG : GM M) (hrb : M 61 35 = rb) (K : ∀ M' : pM, bmP rb M M' → Q none M') : J O 187 119 Q 0 [some (vr 62), none, none] [] 119 M := by
  have g11 : M 61 11 = 65 := gm_11 hG
  have g12 : M 61 12 = 66 := gm_12 hG
  have g13 : M 61 13 = 67 := gm_13 hG
  have g14 : M 61 14 = 68 := gm_14 hG
  have g15 : M 61 15 = 69 := gm_15 hG
  have hlt : rb < 2 := by omega
  simp only [s_187_0, s_187_1, s_187_4, s_187_5, s_187_8, s_187_9, s_187_10, s_187_11, s_187_14, s_187_15, s_187_18, s_187_19, s_187_20, s_187_21, s_187_24, s_187_25, s_187_28, s_187_29, s_187_30, s_187_31, s_187_34, s_187_35, s_187_38, s_187_39, s_187_40, s_187_41, s_187_44, s_187_45, s_187_48, s_187_49, s_187_50, s_187_51, s_187_53, s_187_55, s_187_58, s_187_59, s_187_62, s_187_64, s_187_65, s_187_68, s_187_69, s_187_70, s_187_71, s_187_72, s_187_73, s_187_74, s_187_77, s_187_79, s_187_80, s_187_83, s_187_84, s_187_85, s_187_86, s_187_87, s_187_88, s_187_91, s_187_94, s_187_95, s_187_97, s_187_99, s_187_102, s_187_103, s_187_106, s_187_107, s_187_108, s_187_109, s_187_110, s_187_113, s_187_114, s_187_115, s_187_116, s_187_117, s_187_119, s_187_121, s_187_124, s_187_125, s_187_128, s_187_130, s_187_131, s_187_134, s_187_135, s_187_137, s_187_138, s_187_139, s_187_140, s_187_141, s_187_142, s_187_143, s_187_144, s_187_147, s_187_150, s_187_153, s_187_156, s_187_157, s_187_159, s_187_161, s_187_164, s_187_165, s_187_168, s_187_170, s_187_171, s_187_174, s_187_175, s_187_176, s_187_177, s_187_178, s_187_179, s_187_180, s_187_183, s_187_185, s_187_186, s_187_189, s_187_190, s_187_191, s_187_192, s_187_193, s_187_194, s_187_195, s_187_198, s_187_200, s_187_201, s_187_204, s_187_205, s_187_206, s_187_207, s_187_208, s_187_209, s_187_212, s_187_215, g11, g12, g13, g14, g15, hrb, h0, hlt, ob9_61, aw9_64, aw9_65, aw9_66, aw9_67, aw9_68, kI_eq, kL_eq, kV_eq, stk_n, stk_i, stk_r, stk_l, stA, zrA, rowA, filA, Nat.reduceAdd, Nat.reduceSub, Nat.reduceEqDiff, Nat.reduceLeDiff, Nat.reduceLT, Int.reduceToNat, Int.reduceNeg, Int.reduceLT, Int.reduceLE, Int.reduceEq, Int.reduceAdd, Int.reduceSub, Int.reduceMul, true_and, and_true, false_and, and_false, if_true, if_false, not_true_eq_false, not_false_eq_true, true_implies, false_implies, forall_const, and_self, eq_self, reduceIte, Int.toNat_natCast, true_or, or_true, false_or, or_false, Nat.zero_add, Nat.add_zero, Nat.le_refl]
  refine bm1 h0 h1 _ (hG.cg (by simp only [ne_eq, Nat.reduceEqDiff, not_false_eq_true, st_row])) (by simp only [stA, kI_eq, kL_eq, kV_eq, stk_n, stk_i, stk_r, stk_l, stA, zrA, rowA, filA, Nat.reduceAdd, Nat.reduceSub, Nat.reduceEqDiff, Nat.reduceLeDiff, Nat.reduceLT, Int.reduceToNat, Int.reduceNeg, Int.reduceLT, Int.reduceLE, Int.reduceEq, Int.reduceAdd, Int.reduceSub, Int.reduceMul, true_and, and_true, false_and, and_false, if_true, if_false, not_true_eq_false, not_false_eq_true, true_implies, false_implies, forall_const, and_self, eq_self, reduceIte, Int.toNat_natCast, true_or, or_true, false_or, or_false, Nat.zero_add, Nat.add_zero, Nat.le_refl]; exact hrb) none (fun M1 f1 c1 => ?_)
  have p1 : ∀ c, 64 ≤ c → c ≤ 68 → M1 c rb.toNat = 0 ∧ ∀ i, i ≠ rb.toNat → M1 c i = M c i := by
    intro c q1 q2
    rw [f1 c (by omega) (by omega)]
    rcases (by omega : c = 64 ∨ c = 65 ∨ c = 66 ∨ c = 67 ∨ c = 68) with rfl | rfl | rfl | rfl | rfl <;> (refine ⟨by simp [stA], fun i hi => by simp [stA, hi]⟩)
  have b1 : ∀ c, c < 64 ∨ (68 < c ∧ c ≠ 69 ∧ c ≠ 86) → M1 c = M c := by
    intro c q
    rw [f1 c (by omega) (by omega), st_row (by omega), st_row (by omega), st_row (by omega), st_row (by omega), st_row (by omega)]
  simp only [s_187_94, s_187_95]
  refine bm2 h0 h1 M1 (hG.cg (b1 61 (by omega))) (by rw [b1 61 (by omega)]; exact hrb) none (fun M2 l2 f2 c2 d2 => ?_)
  simp only [s_187_156, s_187_157]
  refine bm3 h0 h1 M2 (hG.cg (by rw [f2 61 (by decide) (by decide) (by decide)]; exact b1 61 (by omega))) (by rw [f2 61 (by decide) (by decide) (by decide), b1 61 (by omega)]; exact hrb) l2 (fun M3 f3 c3 => ⟨rfl, K M3 ⟨?_, ?_, ?_, ?_, ?_, c3⟩⟩)
  · intro c q
    rw [f3 c (by omega) (by omega) (by omega), f2 c (by omega) (by omega) (by omega), b1 c (by omega)]
  · intro c q1 q2
    rw [f3 c (by omega) (by omega) (by omega), f2 c (by omega) (by omega) (by omega)]
    exact p1 c q1 q2
  · intro i q1 q2
    rw [f3 69 (by decide) (by decide) (by decide), f2 69 (by decide) (by decide) (by decide), f3 86 (by decide) (by decide) (by decide), f2 86 (by decide) (by decide) (by decide)]
    exact c1 i q1 q2
  · intro i q1 q2
    rw [f3 70 (by decide) (by decide) (by decide)]
    exact c2 i q1 q2
  · intro i q1
    rw [f3 84 (by decide) (by decide) (by decide), f3 85 (by decide) (by decide) (by decide)]
    exact d2 i q1
