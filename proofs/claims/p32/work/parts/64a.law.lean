theorem frC_c {M M' : pM} (h : ∀ c, c < 61 → M' c = M c) (hC : FrC M) : FrC M' := by
  obtain ⟨h1, h2, h3, h4⟩ := hC
  have c1 : ∀ q ∈ frC, q.1 < 61 := by decide +kernel
  have c4 : ∀ c ∈ zC, c < 61 := by decide +kernel
  exact ⟨fun q hq => by rw [h q.1 (c1 q hq)]; exact h1 q hq, fun i hi => by rw [h 6 (by decide), h 7 (by decide), h 15 (by decide), h 16 (by decide)]; exact h2 i hi, fun i hi => by rw [h 30 (by decide)]; exact h3 i hi, fun c hc i => by rw [h c (c4 c hc)]; exact h4 c hc i⟩
theorem eq_start {M : pM} (h34 : M 61 34 = 0) (hC : FrC M) (hR : HP 60 0 0 M ∧ M 65 0 = 0 ∧ M 67 0 = 0 ∧ M 68 0 = 0) : HP 182 0 0 M := by
  obtain ⟨hR, r5, r7, r8⟩ := hR
  obtain ⟨h1, h2, h3, h4⟩ := hC
  obtain ⟨s, ⟨L, l1, l2, l3⟩, w, a⟩ := Eq.mp hp_60 hR
  have eL : L = 0 := by omega
  subst eL
  have es : (0, qA0) = s := Option.some.inj l3
  subst es
  have f7 : M 3 7 = 0 := h1 (3, 7, 0) (by decide)
  have f10 : M 3 10 = 0 := h1 (3, 10, 0) (by decide)
  have f13 : M 3 13 = 0 := h1 (3, 13, 0) (by decide)
  refine Eq.mpr hp_182 (Or.inl ⟨h34, ⟨f7.trans r5.symm, f10.trans r7.symm, f13.trans r8.symm⟩, tm M, qA0, ⟨r5.symm, r7.symm, r8.symm⟩, ⟨rfl, by decide, by decide, by decide⟩, ?_, qRr 0 M, fun _ _ _ _ => rfl, a⟩)
  refine ⟨fun i hi => h4 4 (by decide) i, fun i hi => h4 5 (by decide) i, fun i hi => (h2 i hi).1, fun i hi => by show (-1 : Int) ≤ -1 ∧ (0 : Int) ≤ 0; omega, fun i hi => (h2 i hi).2.1, fun i hi hw => ?_, fun i hi hw => ?_, fun i hi hw => ?_, fun i j hi hj hw => ?_⟩
  all_goals (have hw : (i : Int) < 0 := hw; omega)
def laQ : pQ := fun r _ => r = some (vi 1)
theorem nz_l : nz 325 = 0 := by decide +kernel
theorem la_18 {M : pM} (hG : gI M) (hF : ∀ q ∈ frM, M 61 q.1 = q.2) (hC : ∀ q ∈ frC, M q.1 q.2.1 = q.2.2) (hT : HP 40 0 0 M) (hE : HP 182 0 0 M) (hFF : HP 294 0 0 M) : J (OJ 60) 325 0 laQ 18 [some (vr 1003), some (vr 1), some (vr 62), some (vi 0)] [] 119 M := by
  have hl : 0 ≤ M 1003 0 ∧ M 1003 0 ≤ 3584 := hG.1 1003 0 (0, 3584) (fun h => absurd h (by decide)) (by decide +kernel) (by decide)
  have h85 : M 61 85 = 0 := hF (85, 0) (by decide)
  have h43 : M 61 43 = -1 := hF (43, -1) (by decide)
  have w2 : M 61 34 = 0 := hF (34, 0) (by decide)
  have w3 : M 61 99 = 0 := hF (99, 0) (by decide)
  have w4 : M 55 1 = 0 := hC (55, 1, 0) (by decide)
  have w5 : M 0 4 = 13 := hC (0, 4, 13) (by decide)
  have w6 : M 0 3 = 4 := hC (0, 3, 4) (by decide)
  have w7 : M 61 2 = 0 := hF (2, 0) (by decide)
  have w8 : M 0 1 = 0 := hC (0, 1, 0) (by decide)
  have w9 : M 61 80 = 0 := hF (80, 0) (by decide)
  obtain ⟨ρ, e0, e1, e2, e3, e4, e5, e6, e7, e8, e9⟩ : ∃ ρ : Nat → Int, ρ 0 = M 1003 0 ∧ ρ 1 = 0 ∧ ρ 2 = M 61 34 ∧ ρ 3 = M 61 99 ∧ ρ 4 = M 55 1 ∧ ρ 5 = M 0 4 ∧ ρ 6 = M 0 3 ∧ ρ 7 = M 61 2 ∧ ρ 8 = M 0 1 ∧ ρ 9 = M 61 80 := ⟨fun s => if s = 0 then M 1003 0 else if s = 1 then 0 else if s = 2 then M 61 34 else if s = 3 then M 61 99 else if s = 4 then M 55 1 else if s = 5 then M 0 4 else if s = 6 then M 0 3 else if s = 7 then M 61 2 else if s = 8 then M 0 1 else M 61 80, rfl, rfl, rfl, rfl, rfl, rfl, rfl, rfl, rfl, rfl⟩
  have key := cuts_ok (c := k_608) (cu := u_608) (r := 60) (ρ := ρ) (M := M) rulT okRTt okCTt lawU (fun cc hcc _ => allH cc hcc) (by decide +kernel) (by decide) (okB_c (by show 0 ≤ ρ 0 ∧ ρ 0 ≤ 3584; omega) okB_n) okF_n
  have k2 := key _ (u_608.getD 0 (0, 0, ([], [], [], [], []), (0, []))) (List.mem_of_getElem? (i := 0) rfl) ρ [some (vr 1003), some (vr 1), some (vr 62), some (vi 0)] [] M (fun _ _ => rfl) ⟨⟨_, rfl, rfl⟩, ⟨_, rfl, rfl⟩, ⟨_, rfl, rfl⟩, ⟨_, rfl, by show vi 0 = vi (0 + (1 * ρ 1 + 0)); rw [e1]; rfl⟩, trivial⟩ trivial
    (okM_c (pvm (c := 1003) (by decide) (x' := 0) (y' := M 1003 0) rfl (by show 0 + (1 * ρ 0 + 0) = _; omega) ⟨by decide, rfl⟩) (okM_c (pvm (c := 61) (by decide) (x' := 34) (y' := M 61 34) rfl (by show 0 + (1 * ρ 2 + 0) = _; omega) ⟨by decide, rfl⟩) (okM_c (pvm (c := 61) (by decide) (x' := 99) (y' := M 61 99) rfl (by show 0 + (1 * ρ 3 + 0) = _; omega) ⟨by decide, rfl⟩) (okM_c (pvm (c := 55) (by decide) (x' := 1) (y' := M 55 1) rfl (by show 0 + (1 * ρ 4 + 0) = _; omega) ⟨by decide, rfl⟩) (okM_c (pvm (c := 0) (by decide) (x' := 4) (y' := M 0 4) rfl (by show 13 + ((-9) * ρ 2 + 0) = _; omega) ⟨by decide, rfl⟩) (okM_c (pvm (c := 0) (by decide) (x' := 3) (y' := M 0 3) rfl (by show 4 + (9 * ρ 2 + 0) = _; omega) ⟨by decide, rfl⟩) (okM_c (pvm (c := 61) (by decide) (x' := 2) (y' := M 61 2) rfl (by show 0 + (1 * ρ 8 + 0) = _; omega) ⟨by decide, rfl⟩) (okM_c (pvm (c := 0) (by decide) (x' := 1) (y' := M 0 1) rfl (by show 0 + (1 * ρ 8 + 0) = _; omega) ⟨by decide, rfl⟩) (okM_c (pvp 8 (x' := 0) (y' := 0) rfl rfl (fun h => by rw [h43] at h; exact absurd h (by decide))) (okM_c (pvp 7 (x' := 0) (y' := 0) rfl rfl (fun h => absurd h85 h)) (okM_c (pvm (c := 61) (by decide) (x' := 80) (y' := M 61 80) rfl (by show 0 + (1 * ρ 9 + 0) = _; omega) ⟨by decide, rfl⟩) (okM_c (pvp 41 (x' := 0) (y' := 0) (by show 0 + (1 * ρ 8 + 0) = _; omega) (by show 0 + 0 = _; omega) (Eq.mpr hp_41 ⟨by decide, by decide, fun i hi => absurd hi (Nat.not_lt_zero i)⟩)) (okM_c (pvp 40 (x' := 0) (y' := 0) rfl rfl hT) (okM_c (pvp 182 (x' := 0) (y' := 0) rfl rfl hE) (okM_c (pvp 294 (x' := 0) (y' := 0) rfl rfl hFF) (okM_c (pvp 343 (x' := 0) (y' := 0) (by show 0 + (1 * ρ 4 + 0) = _; omega) (by show 0 + 0 = _; omega) (Eq.mpr hp_343 ⟨by decide, by decide, fun i hi => absurd hi (by omega)⟩)) okM_n)))))))))))))))) (okB_c (by show 0 ≤ ρ 1 ∧ ρ 1 ≤ 10000; omega) (okB_c (by show 0 ≤ ρ 2 ∧ ρ 2 ≤ 1; omega) (okB_c (by show 0 ≤ ρ 3 ∧ ρ 3 ≤ 9; omega) (okB_c (by show 0 ≤ ρ 4 ∧ ρ 4 ≤ 9; omega) (okB_c (by show 4 ≤ ρ 5 ∧ ρ 5 ≤ 13; omega) (okB_c (by show 4 ≤ ρ 6 ∧ ρ 6 ≤ 13; omega) (okB_c (by show 0 ≤ ρ 7 ∧ ρ 7 ≤ 2000; omega) (okB_c (by show 0 ≤ ρ 8 ∧ ρ 8 ≤ 1900; omega) (okB_c (by show 0 ≤ ρ 9 ∧ ρ 9 ≤ 1; omega) okB_n))))))))) (okF_c (by show 0 ≤ 0 + (1 * ρ 3 + ((-1) * ρ 4 + 0)); omega) (okF_c (by show 0 ≤ 0 + ((-1) * ρ 3 + (1 * ρ 4 + 0)); omega) okF_n)) (by show 0 ≤ 330032 + ((-33) * ρ 1 + 0); omega) (Nat.lt_succ_self _) hG (fun _ _ _ => rfl)
  have k3 : J (OJ 60) 325 (nz 325) (Qp k_608 ρ M) 18 [some (vr 1003), some (vr 1), some (vr 62), some (vi 0)] [] 119 M := k2
  rw [nz_l] at k3
  refine J_mono (fun x M' hq => ?_) k3
  obtain ⟨-, -, e, k4, ρ', -, k5, -⟩ := hq
  have e9 := List.mem_singleton.mp k4
  subst e9
  obtain ⟨y, y1, y2⟩ := k5
  rw [y1, show y = vi (1 + 0) from y2]
  rfl
set_option maxHeartbeats 40000000 in
set_option maxRecDepth 100000 in
theorem la_go (M : pM) (h9 : ∀ (c k : Nat) (b : Int × Int), 119 ≤ c → (gl c)[k % (gl c).length]? = some b → b.1 ≤ b.2 → b.1 ≤ M c k ∧ M c k ≤ b.2) (hT : HP 40 0 0 M) : J (OJ 60) 325 0 laQ 0 [some (vr 1003), none, none, none] [] 0 M := by
  simp only [s_325_0, s_325_3r, s_325_4, s_325_7, s_325_8, s_325_11r, s_325_12, s_325_15, s_325_16, s_325_17, sh_0, ob_0, o_128, kI_eq, kL_eq, kV_eq, stk_n, stk_i, stk_r, stk_l, stA, zrA, rowA, filA, Nat.reduceAdd, Nat.reduceSub, Nat.reduceEqDiff, Nat.reduceLeDiff, Nat.reduceLT, Int.reduceToNat, Int.reduceNeg, Int.reduceLT, Int.reduceLE, Int.reduceEq, Int.reduceAdd, Int.reduceSub, Int.reduceMul, true_and, and_true, false_and, and_false, if_true, if_false, not_true_eq_false, not_false_eq_true, true_implies, false_implies, forall_const, and_self, eq_self, reduceIte, Int.toNat_natCast, true_or, or_true, false_or, or_false, Nat.zero_add, Nat.add_zero, Nat.le_refl]
  refine initC (r := 55) M (fun M1 hC r1 => ?_)
  simp only [s_325_0, s_325_3r, s_325_4, s_325_7, s_325_8, s_325_11r, s_325_12, s_325_15, s_325_16, s_325_17, sh_61, ob_61, o_188, kI_eq, kL_eq, kV_eq, stk_n, stk_i, stk_r, stk_l, stA, zrA, rowA, filA, Nat.reduceAdd, Nat.reduceSub, Nat.reduceEqDiff, Nat.reduceLeDiff, Nat.reduceLT, Int.reduceToNat, Int.reduceNeg, Int.reduceLT, Int.reduceLE, Int.reduceEq, Int.reduceAdd, Int.reduceSub, Int.reduceMul, true_and, and_true, false_and, and_false, if_true, if_false, not_true_eq_false, not_false_eq_true, true_implies, false_implies, forall_const, and_self, eq_self, reduceIte, Int.toNat_natCast, true_or, or_true, false_or, or_false, Nat.zero_add, Nat.add_zero, Nat.le_refl]
  refine initM (r := 55) (allH k_516 (List.mem_of_getElem? (i := 516) rfl)) (allH k_450 (List.mem_of_getElem? (i := 450) rfl)) M1 (gIC_of hC (fun c k b hc hb hle => by rw [r1 c (by omega)]; exact h9 c k b hc hb hle)) (fun M2 g2 f2 r2 hR => ?_)
  simp only [s_325_0, s_325_3r, s_325_4, s_325_7, s_325_8, s_325_11r, s_325_12, s_325_15, s_325_16, s_325_17, kI_eq, kL_eq, kV_eq, stk_n, stk_i, stk_r, stk_l, stA, zrA, rowA, filA, Nat.reduceAdd, Nat.reduceSub, Nat.reduceEqDiff, Nat.reduceLeDiff, Nat.reduceLT, Int.reduceToNat, Int.reduceNeg, Int.reduceLT, Int.reduceLE, Int.reduceEq, Int.reduceAdd, Int.reduceSub, Int.reduceMul, true_and, and_true, false_and, and_false, if_true, if_false, not_true_eq_false, not_false_eq_true, true_implies, false_implies, forall_const, and_self, eq_self, reduceIte, Int.toNat_natCast, true_or, or_true, false_or, or_false, Nat.zero_add, Nat.add_zero, Nat.le_refl]
  have h61 : ∀ q ∈ frC, q.1 < 61 := by decide +kernel
  exact la_18 g2 f2 (fun q hq => by rw [r2 q.1 (Or.inl (h61 q hq))]; exact hC.1 q hq) (Eq.mpr hp_40 ⟨fun i hi => by rw [r2 1005 (Or.inr (by omega)), r1 1005 (by omega)]; exact (Eq.mp hp_40 hT).1 i hi, fun i hi => by rw [r2 1007 (Or.inr (by omega)), r1 1007 (by omega)]; exact (Eq.mp hp_40 hT).2 i hi⟩) (eq_start (f2 (34, 0) (by decide)) (frC_c (fun c hc => r2 c (Or.inl hc)) hC) hR.1) (Eq.mpr hp_294 (Or.inl ⟨f2 (34, 0) (by decide), Eq.mp hp_292 hR.2⟩))
