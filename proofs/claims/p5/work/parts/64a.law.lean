def laQ : pQ := fun r _ => r = some (vi 1)
theorem nz_l : nz 325 = 0 := by decide +kernel
theorem la_18 {M : pM} (hG : gI M) (hF : ∀ q ∈ frM, M 61 q.1 = q.2) (hC : ∀ q ∈ frC, M q.1 q.2.1 = q.2.2) (hT : HP 40 0 0 M) : J (OJ 60) 325 0 laQ 18 [some (vr 1003), some (vr 1), some (vr 62), some (vi 0)] [] 119 M := by
  have hl : 0 ≤ M 1003 0 ∧ M 1003 0 ≤ 3584 := hG.1 1003 0 (0, 3584) (fun h => absurd h (by decide)) (by decide +kernel) (by decide)
  have h85 : M 61 85 = 0 := hF (85, 0) (by decide)
  have h43 : M 61 43 = -1 := hF (43, -1) (by decide)
  have w2 : M 61 2 = 0 := hF (2, 0) (by decide)
  have w3 : M 0 1 = 0 := hC (0, 1, 0) (by decide)
  have w4 : M 61 34 = 0 := hF (34, 0) (by decide)
  have w5 : M 61 80 = 0 := hF (80, 0) (by decide)
  obtain ⟨ρ, e0, e1, e2, e3, e4, e5⟩ : ∃ ρ : Nat → Int, ρ 0 = M 1003 0 ∧ ρ 1 = 0 ∧ ρ 2 = M 61 2 ∧ ρ 3 = M 0 1 ∧ ρ 4 = M 61 34 ∧ ρ 5 = M 61 80 := ⟨fun s => if s = 0 then M 1003 0 else if s = 1 then 0 else if s = 2 then M 61 2 else if s = 3 then M 0 1 else if s = 4 then M 61 34 else M 61 80, rfl, rfl, rfl, rfl, rfl, rfl⟩
  have key := cuts_ok (c := k_534) (cu := u_534) (r := 60) (ρ := ρ) (M := M) rulT okRTt okCTt lawU (fun cc hcc _ => allH cc hcc) (by decide +kernel) (by decide) (okB_c (by show 0 ≤ ρ 0 ∧ ρ 0 ≤ 3584; omega) okB_n) okF_n
  have k2 := key _ (u_534.getD 0 (0, 0, ([], [], [], [], []), (0, []))) (List.mem_of_getElem? (i := 0) rfl) ρ [some (vr 1003), some (vr 1), some (vr 62), some (vi 0)] [] M (fun _ _ => rfl) ⟨⟨_, rfl, rfl⟩, ⟨_, rfl, rfl⟩, ⟨_, rfl, rfl⟩, ⟨_, rfl, by show vi 0 = vi (0 + (1 * ρ 1 + 0)); rw [e1]; rfl⟩, trivial⟩ trivial
    (okM_c (pvm (c := 1003) (by decide) (x' := 0) (y' := M 1003 0) rfl (by show 0 + (1 * ρ 0 + 0) = _; omega) ⟨by decide, rfl⟩) (okM_c (pvm (c := 61) (by decide) (x' := 2) (y' := M 61 2) rfl (by show 0 + (1 * ρ 3 + 0) = _; omega) ⟨by decide, rfl⟩) (okM_c (pvm (c := 0) (by decide) (x' := 1) (y' := M 0 1) rfl (by show 0 + (1 * ρ 3 + 0) = _; omega) ⟨by decide, rfl⟩) (okM_c (pvp 8 (x' := 0) (y' := 0) rfl rfl (fun h => by rw [h43] at h; exact absurd h (by decide))) (okM_c (pvp 7 (x' := 0) (y' := 0) rfl rfl (fun h => absurd h85 h)) (okM_c (pvm (c := 61) (by decide) (x' := 34) (y' := M 61 34) rfl (by show 0 + (1 * ρ 4 + 0) = _; omega) ⟨by decide, rfl⟩) (okM_c (pvm (c := 61) (by decide) (x' := 80) (y' := M 61 80) rfl (by show 0 + (1 * ρ 5 + 0) = _; omega) ⟨by decide, rfl⟩) (okM_c (pvp 41 (x' := 0) (y' := 0) (by show 0 + (1 * ρ 3 + 0) = _; omega) (by show 0 + 0 = _; omega) (Eq.mpr hp_41 ⟨by decide, by decide, fun i hi => absurd hi (Nat.not_lt_zero i)⟩)) (okM_c (pvp 40 (x' := 0) (y' := 0) rfl rfl hT) okM_n))))))))) (okB_c (by show 0 ≤ ρ 1 ∧ ρ 1 ≤ 10000; omega) (okB_c (by show 0 ≤ ρ 2 ∧ ρ 2 ≤ 2000; omega) (okB_c (by show 0 ≤ ρ 3 ∧ ρ 3 ≤ 1900; omega) (okB_c (by show 0 ≤ ρ 4 ∧ ρ 4 ≤ 1; omega) (okB_c (by show 0 ≤ ρ 5 ∧ ρ 5 ≤ 1; omega) okB_n))))) okF_n (by show 0 ≤ 330032 + ((-33) * ρ 1 + 0); omega) (Nat.lt_succ_self _) hG (fun _ _ _ => rfl)
  have k3 : J (OJ 60) 325 (nz 325) (Qp k_534 ρ M) 18 [some (vr 1003), some (vr 1), some (vr 62), some (vi 0)] [] 119 M := k2
  rw [nz_l] at k3
  refine J_mono (fun x M' hq => ?_) k3
  obtain ⟨-, -, e, k4, ρ', -, k5, -⟩ := hq
  have e9 := List.mem_singleton.mp k4
  subst e9
  obtain ⟨y, y1, y2⟩ := k5
  rw [y1, show y = vi (1 + 0) from y2]
  rfl
set_option maxHeartbeats 40000000 in
set_option maxRecDepth 100000 in
theorem la_go (M : pM) (h9 : ∀ (c k : Nat) (b : Int × Int), 119 ≤ c → (gl c)[k % (gl c).length]? = some b → b.1 ≤ b.2 → b.1 ≤ M c k ∧ M c k ≤ b.2) (hT : HP 40 0 0 M) : J (OJ 60) 325 0 laQ 0 [some (vr 1003), none, none, none] [] 0 M := by
  simp only [s_325_0, s_325_3r, s_325_4, s_325_7, s_325_8, s_325_11r, s_325_12, s_325_15, s_325_16, s_325_17, sh_0, ob_0, o_128, kI_eq, kL_eq, kV_eq, stk_n, stk_i, stk_r, stk_l, stA, zrA, rowA, filA, Nat.reduceAdd, Nat.reduceSub, Nat.reduceEqDiff, Nat.reduceLeDiff, Nat.reduceLT, Int.reduceToNat, Int.reduceNeg, Int.reduceLT, Int.reduceLE, Int.reduceEq, Int.reduceAdd, Int.reduceSub, Int.reduceMul, true_and, and_true, false_and, and_false, if_true, if_false, not_true_eq_false, not_false_eq_true, true_implies, false_implies, forall_const, and_self, eq_self, reduceIte, Int.toNat_natCast, true_or, or_true, false_or, or_false, Nat.zero_add, Nat.add_zero, Nat.le_refl]
  refine initC (r := 55) M (fun M1 hC r1 => ?_)
  simp only [s_325_0, s_325_3r, s_325_4, s_325_7, s_325_8, s_325_11r, s_325_12, s_325_15, s_325_16, s_325_17, sh_61, ob_61, o_188, kI_eq, kL_eq, kV_eq, stk_n, stk_i, stk_r, stk_l, stA, zrA, rowA, filA, Nat.reduceAdd, Nat.reduceSub, Nat.reduceEqDiff, Nat.reduceLeDiff, Nat.reduceLT, Int.reduceToNat, Int.reduceNeg, Int.reduceLT, Int.reduceLE, Int.reduceEq, Int.reduceAdd, Int.reduceSub, Int.reduceMul, true_and, and_true, false_and, and_false, if_true, if_false, not_true_eq_false, not_false_eq_true, true_implies, false_implies, forall_const, and_self, eq_self, reduceIte, Int.toNat_natCast, true_or, or_true, false_or, or_false, Nat.zero_add, Nat.add_zero, Nat.le_refl]
  refine initM (r := 55) (allH k_266 (List.mem_of_getElem? (i := 266) rfl)) (allH k_292 (List.mem_of_getElem? (i := 292) rfl)) M1 (gIC_of hC (fun c k b hc hb hle => by rw [r1 c (by omega)]; exact h9 c k b hc hb hle)) (fun M2 g2 f2 r2 => ?_)
  simp only [s_325_0, s_325_3r, s_325_4, s_325_7, s_325_8, s_325_11r, s_325_12, s_325_15, s_325_16, s_325_17, kI_eq, kL_eq, kV_eq, stk_n, stk_i, stk_r, stk_l, stA, zrA, rowA, filA, Nat.reduceAdd, Nat.reduceSub, Nat.reduceEqDiff, Nat.reduceLeDiff, Nat.reduceLT, Int.reduceToNat, Int.reduceNeg, Int.reduceLT, Int.reduceLE, Int.reduceEq, Int.reduceAdd, Int.reduceSub, Int.reduceMul, true_and, and_true, false_and, and_false, if_true, if_false, not_true_eq_false, not_false_eq_true, true_implies, false_implies, forall_const, and_self, eq_self, reduceIte, Int.toNat_natCast, true_or, or_true, false_or, or_false, Nat.zero_add, Nat.add_zero, Nat.le_refl]
  have h61 : ∀ q ∈ frC, q.1 < 61 := by decide +kernel
  exact la_18 g2 f2 (fun q hq => by rw [r2 q.1 (Or.inl (h61 q hq))]; exact hC.1 q hq) (Eq.mpr hp_40 ⟨fun i hi => by rw [r2 1005 (Or.inr (by omega)), r1 1005 (by omega)]; exact (Eq.mp hp_40 hT).1 i hi, fun i hi => by rw [r2 1007 (Or.inr (by omega)), r1 1007 (by omega)]; exact (Eq.mp hp_40 hT).2 i hi⟩)
