def frM : List (Nat × Int) := [(0, 63), (1, 64), (2, 0), (3, 0), (4, 0), (5, -1), (6, 0), (7, 0), (8, 0), (9, 0), (10, 0), (11, 65), (12, 66), (13, 67), (14, 68), (15, 69), (16, 70), (17, 71), (18, 72), (19, 73), (20, 74), (21, 75), (22, 76), (23, 77), (24, 78), (25, 79), (26, 80), (27, 81), (28, 82), (29, 83), (30, 84), (31, 85), (32, 86), (33, 87), (34, 0), (35, 0), (36, 0), (37, 0), (38, 0), (39, 88), (40, 0), (41, 0), (42, 89), (43, -1), (44, -1), (45, 90), (46, 0), (47, 91), (48, 92), (49, 93), (50, 94), (51, 95), (52, 0), (53, 1), (54, 1), (55, 2), (56, 96), (57, 97), (58, 98), (59, 99), (60, 100), (61, 101), (62, 102), (63, 103), (64, 0), (65, 0), (66, 0), (67, 0), (68, 104), (69, 105), (70, 106), (71, 107), (72, 0), (73, 108), (74, 109), (75, 110), (76, 111), (77, 112), (78, 113), (79, 114), (80, 0), (81, 0), (82, 0), (83, 0), (84, 0), (85, 0), (86, 0), (87, 0), (88, 0), (89, 0), (90, 0), (91, 0), (92, 0), (93, 0), (94, 115), (95, 116), (96, 117), (97, 118), (98, 119), (99, 0)]
def objC : List Nat := [0, 2, 3, 12, 21, 22, 26, 28, 33, 35, 40, 48, 53, 55]
def aM : List Nat := [62, 63, 64, 65, 66, 67, 68, 69, 70, 71, 72, 73, 74, 75, 76, 77, 78, 79, 80, 81, 82, 83, 84, 85, 86, 87, 88, 89, 90, 91, 92, 93, 94, 95, 96, 97, 98, 99, 100, 101, 102, 103, 104, 105, 106, 107, 108, 109, 110, 111, 112, 113, 114, 115, 116, 117, 118]
def bok (o : Option (Int × Int)) (v : Int) : Bool := match o with
  | none => true
  | some b => decide (b.2 < b.1) || (decide (b.1 ≤ v) && decide (v ≤ b.2))
theorem bok_ok {o : Option (Int × Int)} {v : Int} (h : bok o v = true) {b : Int × Int} (e : o = some b) (hle : b.1 ≤ b.2) : b.1 ≤ v ∧ v ≤ b.2 := by
  subst e
  rcases (Bool.or_eq_true _ _).mp h with h | h
  · have := of_decide_eq_true h
    omega
  · obtain ⟨h1, h2⟩ := and_t h
    exact ⟨of_decide_eq_true h1, of_decide_eq_true h2⟩
/-- the bounds of the cells that are not the reference's -/
def gIC (M : pM) : Prop := (∀ (c k : Nat) (b : Int × Int), c < 61 ∨ 119 ≤ c → (c < 119 → k < szS (SH c)) → (gl c)[k % (gl c).length]? = some b → b.1 ≤ b.2 → b.1 ≤ M c k ∧ M c k ≤ b.2) ∧ ∀ e ∈ rfT, e.1 < 61 → ∃ x ∈ e.2.2, M e.1 e.2.1 = ((x : Nat) : Int)
theorem zr_bk {l : List Nat} {v : Int} (h : l.all (fun c => (gl c).all (fun b => bok (some b) v)) = true) {c k : Nat} (hc : c ∈ l) {b : Int × Int} (e : (gl c)[k]? = some b) (hle : b.1 ≤ b.2) : b.1 ≤ v ∧ v ≤ b.2 :=
  bok_ok (List.all_eq_true.mp (List.all_eq_true.mp h c hc) b (List.mem_of_getElem? e)) rfl hle
theorem gIC_of {M : pM} (hF : FrC M) (h9 : ∀ (c k : Nat) (b : Int × Int), 119 ≤ c → (gl c)[k % (gl c).length]? = some b → b.1 ≤ b.2 → b.1 ≤ M c k ∧ M c k ≤ b.2) : gIC M := by
  obtain ⟨f1, f2, f3, f4⟩ := hF
  refine ⟨fun c k b hc hk hb hle => ?_, fun e he hc => ?_⟩
  · rcases hc with hc | hc
    · have hk := hk (by omega)
      have hall : (List.range 61).all (fun c => zC.contains c || [6, 7, 15, 16].contains c || Nat.beq c 30 || objC.contains c) = true := by decide +kernel
      have hh := List.all_eq_true.mp hall c (List.mem_range.mpr hc)
      rcases (Bool.or_eq_true _ _).mp hh with hh | hh
      · rcases (Bool.or_eq_true _ _).mp hh with hh | hh
        · rcases (Bool.or_eq_true _ _).mp hh with hh | hh
          · have hm : c ∈ zC := List.contains_iff_mem.mp hh
            rw [f4 c hm k]
            exact zr_bk (l := zC) (by decide +kernel) hm hb hle
          · have hm : c ∈ [6, 7, 15, 16] := List.contains_iff_mem.mp hh
            have h6 : k < 6 := by
              have : ([6, 7, 15, 16] : List Nat).all (fun c => Nat.beq (szS (SH c)) 6) = true := by decide +kernel
              have := beq_t (List.all_eq_true.mp this c hm)
              omega
            have hv : M c k = -1 := by
              have := f2 k h6
              rcases List.mem_cons.mp hm with q | q
              · rw [q]; exact this.1
              · rcases List.mem_cons.mp q with q | q
                · rw [q]; exact this.2.1
                · rcases List.mem_cons.mp q with q | q
                  · rw [q]; exact this.2.2.1
                  · rw [List.mem_singleton.mp q]; exact this.2.2.2
            rw [hv]
            exact zr_bk (l := [6, 7, 15, 16]) (by decide +kernel) hm hb hle
        · have e := beq_t hh
          subst e
          rw [show (gl 30).length = 1 from rfl, Nat.mod_one] at hb
          have hb : some ((-1 : Int), (63 : Int)) = some b := hb
          cases hb
          exact f3 k hk
      · have hm : c ∈ objC := List.contains_iff_mem.mp hh
        have hall : objC.all (fun c => (List.range (szS (SH c))).all (fun k => frC.any (fun q => Nat.beq q.1 c && Nat.beq q.2.1 k && bok ((gl c)[k % (gl c).length]?) q.2.2))) = true := by decide +kernel
        obtain ⟨q, q1, q2⟩ := List.any_eq_true.mp (List.all_eq_true.mp (List.all_eq_true.mp hall c hm) k (List.mem_range.mpr hk))
        obtain ⟨q2, q5⟩ := and_t q2
        obtain ⟨q3, q4⟩ := and_t q2
        have e := f1 q q1
        rw [beq_t q3, beq_t q4] at e
        rw [e]
        exact bok_ok q5 hb hle
    · exact h9 c k b hc hb hle
  · have hall : rfT.all (fun e => !(Nat.blt e.1 61) || frC.any (fun q => Nat.beq q.1 e.1 && Nat.beq q.2.1 e.2.1 && e.2.2.any (fun x => decide (q.2.2 = Int.ofNat x)))) = true := by decide +kernel
    have hh := List.all_eq_true.mp hall e he
    rw [show Nat.blt e.1 61 = true from Nat.blt_eq ▸ hc] at hh
    obtain ⟨q, q1, q2⟩ := List.any_eq_true.mp hh
    obtain ⟨q2, q5⟩ := and_t q2
    obtain ⟨q3, q4⟩ := and_t q2
    have e1 := f1 q q1
    rw [beq_t q3, beq_t q4] at e1
    obtain ⟨x, x1, x2⟩ := List.any_eq_true.mp q5
    exact ⟨x, x1, by rw [e1]; exact of_decide_eq_true x2⟩
theorem gI_all {M M0 : pM} (hC : gIC M) (he : ∀ c, c < 61 ∨ 119 ≤ c → M0 c = M c) (hF : ∀ q ∈ frM, M0 61 q.1 = q.2) (hZ : ∀ c ∈ aM, ∀ i, M0 c i = 0) : gI M0 := by
  refine ⟨fun c k b hk hb hle => ?_, fun e he' => ?_⟩
  · by_cases hc : c < 61 ∨ 119 ≤ c
    · rw [he c hc]
      exact hC.1 c k b hc hk hb hle
    · have hk := hk (by omega)
      by_cases h61 : c = 61
      · subst h61
        have hall : (List.range (szS (SH 61))).all (fun k => frM.any (fun q => Nat.beq q.1 k && bok ((gl 61)[k % (gl 61).length]?) q.2)) = true := by decide +kernel
        obtain ⟨q, q1, q2⟩ := List.any_eq_true.mp (List.all_eq_true.mp hall k (List.mem_range.mpr hk))
        obtain ⟨q3, q5⟩ := and_t q2
        have e := hF q q1
        rw [beq_t q3] at e
        rw [e]
        exact bok_ok q5 hb hle
      · have hall : (List.range 119).all (fun c => Nat.ble c 61 || aM.contains c) = true := by decide +kernel
        have hh := List.all_eq_true.mp hall c (List.mem_range.mpr (by omega))
        have hm : c ∈ aM := by
          rcases (Bool.or_eq_true _ _).mp hh with hh | hh
          · have := Nat.le_of_ble_eq_true hh
            omega
          · exact List.contains_iff_mem.mp hh
        rw [hZ c hm k]
        exact zr_bk (l := aM) (by decide +kernel) hm hb hle
  · by_cases hc : e.1 < 61
    · rw [he e.1 (Or.inl hc)]
      exact hC.2 e he' hc
    · have hall : rfT.all (fun e => Nat.blt e.1 61 || (Nat.beq e.1 61 && frM.any (fun q => Nat.beq q.1 e.2.1 && e.2.2.any (fun x => decide (q.2 = Int.ofNat x))))) = true := by decide +kernel
      have hh := List.all_eq_true.mp hall e he'
      rcases (Bool.or_eq_true _ _).mp hh with hh | hh
      · have : e.1 < 61 := Nat.blt_eq ▸ hh
        omega
      · obtain ⟨h1, h2⟩ := and_t hh
        obtain ⟨q, q1, q2⟩ := List.any_eq_true.mp h2
        obtain ⟨q3, q5⟩ := and_t q2
        have e1 := hF q q1
        rw [beq_t q3] at e1
        obtain ⟨x, x1, x2⟩ := List.any_eq_true.mp q5
        exact ⟨x, x1, by rw [beq_t h1, e1]; exact of_decide_eq_true x2⟩
theorem mo_bm (hB : Hold k_516) {r : Nat} (hr : 1 ≤ r) {M : pM} (hG : gI M) (h35 : M 61 35 = 0) {K : pQ} (hK : ∀ M1, gI M1 → fr (ctm k_516) M M1 → HP 60 0 0 M1 ∧ M1 65 0 = 0 ∧ M1 67 0 = 0 ∧ M1 68 0 = 0 → K none M1) : mo (OJ r) 187 [vr 62] 119 M K := by
  refine ⟨_, hB r hr (fun _ => 0) [vr 62] M ⟨rfl, trivial⟩ (okM_c (pvm (c := 61) (by decide) (x' := 35) (y' := 0) rfl rfl ⟨by decide, h35⟩) okM_n) okB_n okF_n hG, fun ret M1 hq => ?_⟩
  obtain ⟨k1, k2, e, k3, ρ', k4, k5, k6, -⟩ := hq
  have e9 := List.mem_singleton.mp k3
  subst e9
  have k5 : ret = none := k5
  rw [k5]
  exact hK M1 k1 k2 ⟨cvp 60 (x' := 0) (y' := 0) (by show (0 : Int) + 0 = 0; rfl) (by show (0 : Int) + 0 = 0; rfl) (k6 _ (List.mem_cons_of_mem _ (List.mem_cons_of_mem _ (List.mem_cons_of_mem _ (List.mem_cons_of_mem _ (List.mem_cons_of_mem _ List.mem_cons_self)))))), (cvm (c := 65) (by decide) (x' := 0) (y' := 0) (by show (0 : Int) + 0 = 0; rfl) (by show (0 : Int) + 0 = 0; rfl) (k6 _ (List.mem_cons_of_mem _ List.mem_cons_self))).2, (cvm (c := 67) (by decide) (x' := 0) (y' := 0) (by show (0 : Int) + 0 = 0; rfl) (by show (0 : Int) + 0 = 0; rfl) (k6 _ (List.mem_cons_of_mem _ (List.mem_cons_of_mem _ (List.mem_cons_of_mem _ List.mem_cons_self))))).2, (cvm (c := 68) (by decide) (x' := 0) (y' := 0) (by show (0 : Int) + 0 = 0; rfl) (by show (0 : Int) + 0 = 0; rfl) (k6 _ (List.mem_cons_of_mem _ (List.mem_cons_of_mem _ (List.mem_cons_of_mem _ (List.mem_cons_of_mem _ List.mem_cons_self)))))).2⟩
theorem mo_ms (hB : Hold k_450) {r : Nat} (hr : 1 ≤ r) {M : pM} (hG : gI M) {K : pQ} (h34 : M 61 34 = 0) (h67 : M 67 0 = 0) (hK : ∀ M1, gI M1 → fr (ctm k_450) M M1 → HP 292 0 0 M1 → K none M1) : mo (OJ r) 281 [vr 62] 119 M K := by
  refine ⟨_, hB r hr (fun _ => 0) [vr 62] M ⟨rfl, trivial⟩ (okM_c (pvm (c := 61) (by decide) (x' := 34) (y' := 0) rfl rfl ⟨by decide, h34⟩) (okM_c (pvm (c := 67) (by decide) (x' := 0) (y' := 0) rfl rfl ⟨by decide, h67⟩) okM_n)) (okB_c (by show (0 : Int) ≤ 0 ∧ (0 : Int) ≤ 20; omega) okB_n) okF_n hG, fun ret M1 hq => ?_⟩
  obtain ⟨k1, k2, e, k3, ρ', k4, k5, k6, -⟩ := hq
  have e9 := List.mem_singleton.mp k3
  subst e9
  have k5 : ret = none := k5
  rw [k5]
  exact hK M1 k1 k2 (cvp 292 (x' := 0) (y' := 0) (by show (0 : Int) + 0 = 0; rfl) (by show (0 : Int) + 0 = 0; rfl) (k6 _ (List.mem_cons_of_mem _ (List.mem_cons_of_mem _ List.mem_cons_self))))
theorem fr_out {m : mdL} {M M' : pM} (h : fr m M M') (hm : m.all (fun e => Nat.ble 62 e.1 && Nat.blt e.1 119) = true) : ∀ c, c ≤ 61 ∨ 119 ≤ c → M' c = M c := by
  intro c hc
  funext k
  refine h c k ?_
  cases hq : inM m c k with
  | false => rfl
  | true =>
    obtain ⟨e, he, h1⟩ := List.any_eq_true.mp hq
    obtain ⟨h1, _⟩ := and_t h1
    obtain ⟨h1, _⟩ := and_t h1
    obtain ⟨h2, h3⟩ := and_t (List.all_eq_true.mp hm e he)
    have h2 := Nat.le_of_ble_eq_true h2
    have h3 : e.1 < 119 := Nat.blt_eq ▸ h3
    have h1 := beq_t h1
    omega
set_option maxHeartbeats 40000000 in
set_option maxRecDepth 100000 in
theorem initM {r : Nat} {Q : pQ} (hB : Hold k_516) (hS : Hold k_450) (M : pM) (hC : gIC M) (K : ∀ M' : pM, gI M' → (∀ q ∈ frM, M' 61 q.1 = q.2) → (∀ c, c < 61 ∨ 119 ≤ c → M' c = M c) → ((HP 60 0 0 M' ∧ M' 65 0 = 0 ∧ M' 67 0 = 0 ∧ M' 68 0 = 0) ∧ HP 292 0 0 M') → Q none M') : J (OJ (r + 4)) 188 62 Q 0 [some (vr 62)] [] 62 (zr M 61) := by
  simp only [s_188_0, s_188_1, s_188_4, s_188_5, s_188_8, s_188_10, s_188_13, s_188_14, s_188_17, s_188_19, s_188_22, s_188_23, s_188_24, s_188_27, s_188_28, s_188_29, s_188_31, s_188_34, s_188_35, s_188_36, s_188_38, s_188_41, s_188_42, s_188_43, s_188_45, s_188_48, s_188_49, s_188_50, s_188_52, s_188_55, s_188_56, s_188_57, s_188_59, s_188_62, s_188_63, s_188_66, s_188_68, s_188_71, s_188_72, s_188_74, s_188_76, s_188_79, s_188_80, s_188_82, s_188_84, s_188_87, s_188_88, s_188_90, s_188_92, s_188_95, s_188_96, s_188_98, s_188_100, s_188_103, s_188_104, s_188_106, s_188_108, s_188_111, s_188_112, s_188_114, s_188_116, s_188_119, s_188_120, s_188_122, s_188_124, s_188_127, s_188_128, s_188_130, s_188_132, s_188_135, s_188_136, s_188_138, s_188_140, s_188_143, s_188_144, s_188_146, s_188_148, s_188_151, s_188_152, s_188_154, s_188_156, s_188_159, s_188_160, s_188_162, s_188_164, s_188_167, s_188_168, s_188_170, s_188_172, s_188_175, s_188_176, s_188_178, s_188_180, s_188_183, s_188_184, s_188_186, s_188_188, s_188_191, s_188_192, s_188_194, s_188_196, s_188_199, s_188_200, s_188_203, s_188_205, s_188_208, s_188_209, s_188_210, s_188_212, s_188_215, s_188_216, s_188_218, s_188_220, s_188_223, s_188_224, s_188_225, s_188_228, s_188_229, s_188_230, s_188_233, s_188_234, s_188_236, s_188_238, s_188_241, s_188_242, s_188_244, s_188_246, s_188_249, s_188_250, s_188_252, s_188_254, s_188_257, s_188_258, s_188_260, s_188_262, s_188_265, s_188_266, s_188_268, s_188_270, s_188_273, s_188_274, s_188_276, s_188_278, s_188_281, s_188_282, s_188_283, s_188_286, s_188_287, s_188_288, s_188_291, s_188_292, s_188_293, s_188_296, s_188_297, s_188_298, s_188_300, s_188_303, s_188_304, s_188_306, s_188_308, s_188_311, s_188_312, s_188_315, s_188_317, s_188_320, s_188_321, s_188_324, s_188_326, s_188_329, s_188_330, s_188_333, s_188_335, s_188_338, s_188_339, s_188_342, s_188_344, s_188_347, s_188_348, s_188_351, s_188_353, s_188_356, s_188_357, s_188_360, s_188_362, s_188_365, s_188_366, s_188_368, s_188_370, s_188_373, s_188_374, s_188_376, s_188_378, s_188_381, s_188_382, s_188_384, s_188_386, s_188_389, s_188_390, s_188_392, s_188_394, s_188_397, s_188_398, s_188_399, s_188_401, s_188_404, s_188_405, s_188_408, s_188_410, s_188_413, s_188_414, s_188_417, s_188_419, s_188_422, s_188_423, s_188_424, s_188_426, s_188_429, s_188_430, s_188_432, s_188_434, s_188_437, s_188_438, s_188_440, s_188_442, s_188_445, s_188_446, s_188_448, s_188_450, s_188_453, s_188_454, s_188_457, s_188_459, s_188_462, s_188_463, s_188_465, s_188_467, s_188_470, s_188_471, s_188_473, s_188_475, s_188_478, s_188_479, s_188_481, s_188_483, s_188_486, s_188_487, s_188_488, s_188_490, s_188_493, s_188_494, s_188_495, s_188_498, s_188_499, s_188_502, s_188_503, s_188_506, ob_61, sh_61, sh_62, sh_63, sh_64, sh_65, sh_66, sh_67, sh_68, sh_69, sh_70, sh_71, sh_72, sh_73, sh_74, sh_75, sh_76, sh_77, sh_78, sh_79, sh_80, sh_81, sh_82, sh_83, sh_84, sh_85, sh_86, sh_87, sh_88, sh_89, sh_90, sh_91, sh_92, sh_93, sh_94, sh_95, sh_96, sh_97, sh_98, sh_99, sh_100, sh_101, sh_102, sh_103, sh_104, sh_105, sh_106, sh_107, sh_108, sh_109, sh_110, sh_111, sh_112, sh_113, sh_114, sh_115, sh_116, sh_117, sh_118, kI_eq, kL_eq, kV_eq, stk_n, stk_i, stk_r, stk_l, stA, zrA, rowA, filA, Nat.reduceAdd, Nat.reduceSub, Nat.reduceEqDiff, Nat.reduceLeDiff, Nat.reduceLT, Int.reduceToNat, Int.reduceNeg, Int.reduceLT, Int.reduceLE, Int.reduceEq, Int.reduceAdd, Int.reduceSub, Int.reduceMul, true_and, and_true, false_and, and_false, if_true, if_false, not_true_eq_false, not_false_eq_true, true_implies, false_implies, forall_const, and_self, eq_self, reduceIte, Int.toNat_natCast, true_or, or_true, false_or, or_false, Nat.zero_add, Nat.add_zero, Nat.le_refl]
  refine mo_bm hB (show 1 ≤ r + 4 by omega) (gI_all hC ?_ ?_ ?_) rfl (fun M1 g1 p1 q1 => ?_)
  · intro c hc
    funext b
    rcases hc with hc | hc
    · have e : ∀ k, (c = k + 61) = False := fun k => by simp; omega
      simp only [stA, zrA, e 0, show ∀ k, (c = k + 61) = False from e, kI_eq, kL_eq, kV_eq, stk_n, stk_i, stk_r, stk_l, stA, zrA, rowA, filA, Nat.reduceAdd, Nat.reduceSub, Nat.reduceEqDiff, Nat.reduceLeDiff, Nat.reduceLT, Int.reduceToNat, Int.reduceNeg, Int.reduceLT, Int.reduceLE, Int.reduceEq, Int.reduceAdd, Int.reduceSub, Int.reduceMul, true_and, and_true, false_and, and_false, if_true, if_false, not_true_eq_false, not_false_eq_true, true_implies, false_implies, forall_const, and_self, eq_self, reduceIte, Int.toNat_natCast, true_or, or_true, false_or, or_false, Nat.zero_add, Nat.add_zero, Nat.le_refl]
    · obtain ⟨d, rfl⟩ : ∃ d, c = d + 119 := ⟨c - 119, by omega⟩
      simp only [kI_eq, kL_eq, kV_eq, stk_n, stk_i, stk_r, stk_l, stA, zrA, rowA, filA, Nat.reduceAdd, Nat.reduceSub, Nat.reduceEqDiff, Nat.reduceLeDiff, Nat.reduceLT, Int.reduceToNat, Int.reduceNeg, Int.reduceLT, Int.reduceLE, Int.reduceEq, Int.reduceAdd, Int.reduceSub, Int.reduceMul, true_and, and_true, false_and, and_false, if_true, if_false, not_true_eq_false, not_false_eq_true, true_implies, false_implies, forall_const, and_self, eq_self, reduceIte, Int.toNat_natCast, true_or, or_true, false_or, or_false, Nat.zero_add, Nat.add_zero, Nat.le_refl]
  · unfold frM
    repeat refine List.forall_mem_cons.mpr ⟨rfl, ?_⟩
    exact fun _ h => absurd h List.not_mem_nil
  · unfold aM
    repeat refine List.forall_mem_cons.mpr ⟨fun _ => rfl, ?_⟩
    exact fun _ h => absurd h List.not_mem_nil
  have hF1 : ∀ q ∈ frM, M1 61 q.1 = q.2 := by
    rw [fr_out p1 (by decide +kernel) 61 (by omega)]
    unfold frM
    repeat refine List.forall_mem_cons.mpr ⟨rfl, ?_⟩
    exact fun _ h => absurd h List.not_mem_nil
  have e9 : ∀ c, c < 61 ∨ 119 ≤ c → M1 c = M c := fun c hc => (fr_out p1 (by decide +kernel) c (by omega)).trans (by
    funext b
    rcases hc with hc | hc
    · have e : ∀ k, (c = k + 61) = False := fun k => by simp; omega
      simp only [stA, zrA, e 0, show ∀ k, (c = k + 61) = False from e, kI_eq, kL_eq, kV_eq, stk_n, stk_i, stk_r, stk_l, stA, zrA, rowA, filA, Nat.reduceAdd, Nat.reduceSub, Nat.reduceEqDiff, Nat.reduceLeDiff, Nat.reduceLT, Int.reduceToNat, Int.reduceNeg, Int.reduceLT, Int.reduceLE, Int.reduceEq, Int.reduceAdd, Int.reduceSub, Int.reduceMul, true_and, and_true, false_and, and_false, if_true, if_false, not_true_eq_false, not_false_eq_true, true_implies, false_implies, forall_const, and_self, eq_self, reduceIte, Int.toNat_natCast, true_or, or_true, false_or, or_false, Nat.zero_add, Nat.add_zero, Nat.le_refl]
    · obtain ⟨d, rfl⟩ : ∃ d, c = d + 119 := ⟨c - 119, by omega⟩
      simp only [kI_eq, kL_eq, kV_eq, stk_n, stk_i, stk_r, stk_l, stA, zrA, rowA, filA, Nat.reduceAdd, Nat.reduceSub, Nat.reduceEqDiff, Nat.reduceLeDiff, Nat.reduceLT, Int.reduceToNat, Int.reduceNeg, Int.reduceLT, Int.reduceLE, Int.reduceEq, Int.reduceAdd, Int.reduceSub, Int.reduceMul, true_and, and_true, false_and, and_false, if_true, if_false, not_true_eq_false, not_false_eq_true, true_implies, false_implies, forall_const, and_self, eq_self, reduceIte, Int.toNat_natCast, true_or, or_true, false_or, or_false, Nat.zero_add, Nat.add_zero, Nat.le_refl])
  simp only [s_188_0, s_188_1, s_188_4, s_188_5, s_188_8, s_188_10, s_188_13, s_188_14, s_188_17, s_188_19, s_188_22, s_188_23, s_188_24, s_188_27, s_188_28, s_188_29, s_188_31, s_188_34, s_188_35, s_188_36, s_188_38, s_188_41, s_188_42, s_188_43, s_188_45, s_188_48, s_188_49, s_188_50, s_188_52, s_188_55, s_188_56, s_188_57, s_188_59, s_188_62, s_188_63, s_188_66, s_188_68, s_188_71, s_188_72, s_188_74, s_188_76, s_188_79, s_188_80, s_188_82, s_188_84, s_188_87, s_188_88, s_188_90, s_188_92, s_188_95, s_188_96, s_188_98, s_188_100, s_188_103, s_188_104, s_188_106, s_188_108, s_188_111, s_188_112, s_188_114, s_188_116, s_188_119, s_188_120, s_188_122, s_188_124, s_188_127, s_188_128, s_188_130, s_188_132, s_188_135, s_188_136, s_188_138, s_188_140, s_188_143, s_188_144, s_188_146, s_188_148, s_188_151, s_188_152, s_188_154, s_188_156, s_188_159, s_188_160, s_188_162, s_188_164, s_188_167, s_188_168, s_188_170, s_188_172, s_188_175, s_188_176, s_188_178, s_188_180, s_188_183, s_188_184, s_188_186, s_188_188, s_188_191, s_188_192, s_188_194, s_188_196, s_188_199, s_188_200, s_188_203, s_188_205, s_188_208, s_188_209, s_188_210, s_188_212, s_188_215, s_188_216, s_188_218, s_188_220, s_188_223, s_188_224, s_188_225, s_188_228, s_188_229, s_188_230, s_188_233, s_188_234, s_188_236, s_188_238, s_188_241, s_188_242, s_188_244, s_188_246, s_188_249, s_188_250, s_188_252, s_188_254, s_188_257, s_188_258, s_188_260, s_188_262, s_188_265, s_188_266, s_188_268, s_188_270, s_188_273, s_188_274, s_188_276, s_188_278, s_188_281, s_188_282, s_188_283, s_188_286, s_188_287, s_188_288, s_188_291, s_188_292, s_188_293, s_188_296, s_188_297, s_188_298, s_188_300, s_188_303, s_188_304, s_188_306, s_188_308, s_188_311, s_188_312, s_188_315, s_188_317, s_188_320, s_188_321, s_188_324, s_188_326, s_188_329, s_188_330, s_188_333, s_188_335, s_188_338, s_188_339, s_188_342, s_188_344, s_188_347, s_188_348, s_188_351, s_188_353, s_188_356, s_188_357, s_188_360, s_188_362, s_188_365, s_188_366, s_188_368, s_188_370, s_188_373, s_188_374, s_188_376, s_188_378, s_188_381, s_188_382, s_188_384, s_188_386, s_188_389, s_188_390, s_188_392, s_188_394, s_188_397, s_188_398, s_188_399, s_188_401, s_188_404, s_188_405, s_188_408, s_188_410, s_188_413, s_188_414, s_188_417, s_188_419, s_188_422, s_188_423, s_188_424, s_188_426, s_188_429, s_188_430, s_188_432, s_188_434, s_188_437, s_188_438, s_188_440, s_188_442, s_188_445, s_188_446, s_188_448, s_188_450, s_188_453, s_188_454, s_188_457, s_188_459, s_188_462, s_188_463, s_188_465, s_188_467, s_188_470, s_188_471, s_188_473, s_188_475, s_188_478, s_188_479, s_188_481, s_188_483, s_188_486, s_188_487, s_188_488, s_188_490, s_188_493, s_188_494, s_188_495, s_188_498, s_188_499, s_188_502, s_188_503, s_188_506, ob_61, sh_61, sh_62, sh_63, sh_64, sh_65, sh_66, sh_67, sh_68, sh_69, sh_70, sh_71, sh_72, sh_73, sh_74, sh_75, sh_76, sh_77, sh_78, sh_79, sh_80, sh_81, sh_82, sh_83, sh_84, sh_85, sh_86, sh_87, sh_88, sh_89, sh_90, sh_91, sh_92, sh_93, sh_94, sh_95, sh_96, sh_97, sh_98, sh_99, sh_100, sh_101, sh_102, sh_103, sh_104, sh_105, sh_106, sh_107, sh_108, sh_109, sh_110, sh_111, sh_112, sh_113, sh_114, sh_115, sh_116, sh_117, sh_118, kI_eq, kL_eq, kV_eq, stk_n, stk_i, stk_r, stk_l, stA, zrA, rowA, filA, Nat.reduceAdd, Nat.reduceSub, Nat.reduceEqDiff, Nat.reduceLeDiff, Nat.reduceLT, Int.reduceToNat, Int.reduceNeg, Int.reduceLT, Int.reduceLE, Int.reduceEq, Int.reduceAdd, Int.reduceSub, Int.reduceMul, true_and, and_true, false_and, and_false, if_true, if_false, not_true_eq_false, not_false_eq_true, true_implies, false_implies, forall_const, and_self, eq_self, reduceIte, Int.toNat_natCast, true_or, or_true, false_or, or_false, Nat.zero_add, Nat.add_zero, Nat.le_refl]
  refine mo_ms hS (show 1 ≤ r + 4 by omega) g1 (hF1 (34, 0) (by decide)) q1.2.2.1 (fun M2 g2 p2 q3 => ?_)
  simp only [s_188_0, s_188_1, s_188_4, s_188_5, s_188_8, s_188_10, s_188_13, s_188_14, s_188_17, s_188_19, s_188_22, s_188_23, s_188_24, s_188_27, s_188_28, s_188_29, s_188_31, s_188_34, s_188_35, s_188_36, s_188_38, s_188_41, s_188_42, s_188_43, s_188_45, s_188_48, s_188_49, s_188_50, s_188_52, s_188_55, s_188_56, s_188_57, s_188_59, s_188_62, s_188_63, s_188_66, s_188_68, s_188_71, s_188_72, s_188_74, s_188_76, s_188_79, s_188_80, s_188_82, s_188_84, s_188_87, s_188_88, s_188_90, s_188_92, s_188_95, s_188_96, s_188_98, s_188_100, s_188_103, s_188_104, s_188_106, s_188_108, s_188_111, s_188_112, s_188_114, s_188_116, s_188_119, s_188_120, s_188_122, s_188_124, s_188_127, s_188_128, s_188_130, s_188_132, s_188_135, s_188_136, s_188_138, s_188_140, s_188_143, s_188_144, s_188_146, s_188_148, s_188_151, s_188_152, s_188_154, s_188_156, s_188_159, s_188_160, s_188_162, s_188_164, s_188_167, s_188_168, s_188_170, s_188_172, s_188_175, s_188_176, s_188_178, s_188_180, s_188_183, s_188_184, s_188_186, s_188_188, s_188_191, s_188_192, s_188_194, s_188_196, s_188_199, s_188_200, s_188_203, s_188_205, s_188_208, s_188_209, s_188_210, s_188_212, s_188_215, s_188_216, s_188_218, s_188_220, s_188_223, s_188_224, s_188_225, s_188_228, s_188_229, s_188_230, s_188_233, s_188_234, s_188_236, s_188_238, s_188_241, s_188_242, s_188_244, s_188_246, s_188_249, s_188_250, s_188_252, s_188_254, s_188_257, s_188_258, s_188_260, s_188_262, s_188_265, s_188_266, s_188_268, s_188_270, s_188_273, s_188_274, s_188_276, s_188_278, s_188_281, s_188_282, s_188_283, s_188_286, s_188_287, s_188_288, s_188_291, s_188_292, s_188_293, s_188_296, s_188_297, s_188_298, s_188_300, s_188_303, s_188_304, s_188_306, s_188_308, s_188_311, s_188_312, s_188_315, s_188_317, s_188_320, s_188_321, s_188_324, s_188_326, s_188_329, s_188_330, s_188_333, s_188_335, s_188_338, s_188_339, s_188_342, s_188_344, s_188_347, s_188_348, s_188_351, s_188_353, s_188_356, s_188_357, s_188_360, s_188_362, s_188_365, s_188_366, s_188_368, s_188_370, s_188_373, s_188_374, s_188_376, s_188_378, s_188_381, s_188_382, s_188_384, s_188_386, s_188_389, s_188_390, s_188_392, s_188_394, s_188_397, s_188_398, s_188_399, s_188_401, s_188_404, s_188_405, s_188_408, s_188_410, s_188_413, s_188_414, s_188_417, s_188_419, s_188_422, s_188_423, s_188_424, s_188_426, s_188_429, s_188_430, s_188_432, s_188_434, s_188_437, s_188_438, s_188_440, s_188_442, s_188_445, s_188_446, s_188_448, s_188_450, s_188_453, s_188_454, s_188_457, s_188_459, s_188_462, s_188_463, s_188_465, s_188_467, s_188_470, s_188_471, s_188_473, s_188_475, s_188_478, s_188_479, s_188_481, s_188_483, s_188_486, s_188_487, s_188_488, s_188_490, s_188_493, s_188_494, s_188_495, s_188_498, s_188_499, s_188_502, s_188_503, s_188_506, kI_eq, kL_eq, kV_eq, stk_n, stk_i, stk_r, stk_l, stA, zrA, rowA, filA, Nat.reduceAdd, Nat.reduceSub, Nat.reduceEqDiff, Nat.reduceLeDiff, Nat.reduceLT, Int.reduceToNat, Int.reduceNeg, Int.reduceLT, Int.reduceLE, Int.reduceEq, Int.reduceAdd, Int.reduceSub, Int.reduceMul, true_and, and_true, false_and, and_false, if_true, if_false, not_true_eq_false, not_false_eq_true, true_implies, false_implies, forall_const, and_self, eq_self, reduceIte, Int.toNat_natCast, true_or, or_true, false_or, or_false, Nat.zero_add, Nat.add_zero, Nat.le_refl]
  have p3 : ∀ c, (62 ≤ c ∧ c ≤ 86) ∨ c = 1 ∨ c = 2 → M2 c = M1 c := fun c hc => funext (fun k => p2 c k (by
    cases hq : inM (ctm k_450) c k with
    | false => rfl
    | true =>
      obtain ⟨e, he, h1⟩ := List.any_eq_true.mp hq
      obtain ⟨h1, _⟩ := and_t h1
      obtain ⟨h1, _⟩ := and_t h1
      have hm : (ctm k_450).all (fun e => Nat.blt 86 e.1) = true := by decide +kernel
      have h2 := List.all_eq_true.mp hm e he
      have h2 : 86 < e.1 := Nat.blt_eq ▸ h2
      have h1 := beq_t h1
      omega))
  have q2 : HP 60 0 0 M2 := hp_dep (fun c k hk => by
    rw [p3 c (by
      obtain ⟨e, he, h1⟩ := List.any_eq_true.mp hk
      obtain ⟨h1, _⟩ := and_t h1
      obtain ⟨h1, _⟩ := and_t h1
      have hm : ([(1, 0, 1999), (2, 1, 1), (69, 0, 63), (70, 0, 47), (71, 0, 5), (72, 0, 5), (73, 0, 5), (74, 0, 11), (75, 0, 11), (76, 0, 11), (77, 0, 11), (78, 0, 19), (79, 0, 19), (80, 0, 19), (81, 0, 15), (82, 0, 3), (83, 0, 3), (84, 0, 7), (85, 0, 7), (86, 0, 63)] : List (Nat × Nat × Nat)).all (fun e => (Nat.ble 62 e.1 && Nat.ble e.1 86) || Nat.beq e.1 1 || Nat.beq e.1 2) = true := by decide +kernel
      have h2 := List.all_eq_true.mp hm e he
      have h1 := beq_t h1
      rcases (Bool.or_eq_true _ _).mp h2 with h2 | h2
      · rcases (Bool.or_eq_true _ _).mp h2 with h2 | h2
        · obtain ⟨h2, h3⟩ := and_t h2
          have h2 := Nat.le_of_ble_eq_true h2
          have h3 := Nat.le_of_ble_eq_true h3
          omega
        · have := beq_t h2; omega
      · have := beq_t h2; omega)]) q1.1
  exact K M2 g2 (fun q hq => by rw [fr_out p2 (by decide +kernel) 61 (by omega)]; exact hF1 q hq) (fun c hc => (fr_out p2 (by decide +kernel) c (by omega)).trans (e9 c hc)) ⟨⟨q2, by rw [p3 65 (by omega)]; exact q1.2.1, by rw [p3 67 (by omega)]; exact q1.2.2.1, by rw [p3 68 (by omega)]; exact q1.2.2.2⟩, q3⟩
