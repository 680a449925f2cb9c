-- gm0_0
theorem cr_800 (M : pM) (s0 s1 s2 : Int) (b0 : 0 ≤ s0 ∧ s0 ≤ 2) (b1 : 0 ≤ s1 ∧ s1 ≤ 35640) (b2 : (-2147483648) ≤ s2 ∧ s2 ≤ 2147483647) (m0 : HP 320 (s0) (s1) M) (m1 : (0 ≤ (0 : Int) ∧ M 59 (0 : Int).toNat = (s0))) (m2 : HP 331 (0 : Int) (0 : Int) M) (m3 : (0 ≤ (s0) ∧ M 58 (s0).toNat = (s2))) (f0 : 0 ≤ (s1 + (-1) * s2)) (hG : gI M) : (HP 321 (0 : Int) (s1) M ∧ True) := by
  obtain ⟨j1, x1, x2, x3⟩ := Eq.mp hp_320 m0
  have hj : hrow 59 1 M 0 = s0.toNat := hrow_v (by decide) (by have h : M 59 0 = s0 := m1.2; rw [h]; omega)
  have hp : ∀ o, o < 0 → hrow 59 1 M o = hrow 59 0 M o := fun o ho => hrow_lt ho (by decide)
  have ej : j1 = s0.toNat := by omega
  subst ej
  have k1 := (Eq.mp hp_331 m2) s0.toNat (by omega)
  rw [m3.2] at k1
  have z := mx_u (hmC_0 hG) hp hj (by omega) x3 k1.symm
  rw [show max s1 s2 = s1 by omega] at z
  exact ⟨Eq.mpr hp_321 ⟨0, by omega, by omega, z⟩, trivial⟩
theorem rul_800 : Rul r_800 := by
  refine ⟨fun _ ρ M hm hB hF hG => ?_, fun gi gv hg => (by cases hg)⟩
  have H := cr_800 M (ρ 0) (ρ 1) (ρ 2) (hB _ List.mem_cons_self) (hB _ (List.mem_cons_of_mem _ List.mem_cons_self)) (hB _ (List.mem_cons_of_mem _ (List.mem_cons_of_mem _ List.mem_cons_self))) (cvp 320 (x' := ((ρ 0))) (y' := ((ρ 1))) (by show 0 + (1 * ρ 0 + 0) = _; omega) (by show 0 + (1 * ρ 1 + 0) = _; omega) (hm _ List.mem_cons_self)) (cvm (c := 59) (by decide) (x' := (0 : Int)) (y' := ((ρ 0))) (by show 0 + 0 = _; omega) (by show 0 + (1 * ρ 0 + 0) = _; omega) (hm _ (List.mem_cons_of_mem _ List.mem_cons_self))) (cvp 331 (x' := (0 : Int)) (y' := (0 : Int)) (by show 0 + 0 = _; omega) (by show 0 + 0 = _; omega) (hm _ (List.mem_cons_of_mem _ (List.mem_cons_of_mem _ List.mem_cons_self)))) (cvm (c := 58) (by decide) (x' := ((ρ 0))) (y' := ((ρ 2))) (by show 0 + (1 * ρ 0 + 0) = _; omega) (by show 0 + (1 * ρ 2 + 0) = _; omega) (hm _ (List.mem_cons_of_mem _ (List.mem_cons_of_mem _ (List.mem_cons_of_mem _ List.mem_cons_self))))) (by have h := hF _ List.mem_cons_self; have h : 0 ≤ 0 + (1 * ρ 1 + ((-1) * ρ 2 + 0)) := h; omega) hG
  obtain ⟨k0, -⟩ := H
  exact ⟨_, List.mem_cons_self, ρ, fun _ _ => rfl, (okM_c (pvp 321 (by show 0 + 0 = _; omega) (by show 0 + (1 * ρ 1 + 0) = _; omega) k0) okM_n), okB_n, okF_n⟩
-- gm1_0
theorem cr_801 (M : pM) (s0 s1 s2 : Int) (b0 : 0 ≤ s0 ∧ s0 ≤ 2) (b1 : 0 ≤ s1 ∧ s1 ≤ 35640) (b2 : (-2147483648) ≤ s2 ∧ s2 ≤ 2147483647) (m0 : HP 320 (s0) (s1) M) (m1 : (0 ≤ (0 : Int) ∧ M 59 (0 : Int).toNat = (s0))) (m2 : HP 331 (0 : Int) (0 : Int) M) (m3 : (0 ≤ (s0) ∧ M 58 (s0).toNat = (s2))) (f0 : 0 ≤ ((-1) * s1 + s2 - 1)) (hG : gI M) : (HP 321 (0 : Int) (s2) M ∧ True) := by
  obtain ⟨j1, x1, x2, x3⟩ := Eq.mp hp_320 m0
  have hj : hrow 59 1 M 0 = s0.toNat := hrow_v (by decide) (by have h : M 59 0 = s0 := m1.2; rw [h]; omega)
  have hp : ∀ o, o < 0 → hrow 59 1 M o = hrow 59 0 M o := fun o ho => hrow_lt ho (by decide)
  have ej : j1 = s0.toNat := by omega
  subst ej
  have k1 := (Eq.mp hp_331 m2) s0.toNat (by omega)
  rw [m3.2] at k1
  have z := mx_u (hmC_0 hG) hp hj (by omega) x3 k1.symm
  rw [show max s1 s2 = s2 by omega] at z
  exact ⟨Eq.mpr hp_321 ⟨0, by omega, by omega, z⟩, trivial⟩
theorem rul_801 : Rul r_801 := by
  refine ⟨fun _ ρ M hm hB hF hG => ?_, fun gi gv hg => (by cases hg)⟩
  have H := cr_801 M (ρ 0) (ρ 1) (ρ 2) (hB _ List.mem_cons_self) (hB _ (List.mem_cons_of_mem _ List.mem_cons_self)) (hB _ (List.mem_cons_of_mem _ (List.mem_cons_of_mem _ List.mem_cons_self))) (cvp 320 (x' := ((ρ 0))) (y' := ((ρ 1))) (by show 0 + (1 * ρ 0 + 0) = _; omega) (by show 0 + (1 * ρ 1 + 0) = _; omega) (hm _ List.mem_cons_self)) (cvm (c := 59) (by decide) (x' := (0 : Int)) (y' := ((ρ 0))) (by show 0 + 0 = _; omega) (by show 0 + (1 * ρ 0 + 0) = _; omega) (hm _ (List.mem_cons_of_mem _ List.mem_cons_self))) (cvp 331 (x' := (0 : Int)) (y' := (0 : Int)) (by show 0 + 0 = _; omega) (by show 0 + 0 = _; omega) (hm _ (List.mem_cons_of_mem _ (List.mem_cons_of_mem _ List.mem_cons_self)))) (cvm (c := 58) (by decide) (x' := ((ρ 0))) (y' := ((ρ 2))) (by show 0 + (1 * ρ 0 + 0) = _; omega) (by show 0 + (1 * ρ 2 + 0) = _; omega) (hm _ (List.mem_cons_of_mem _ (List.mem_cons_of_mem _ (List.mem_cons_of_mem _ List.mem_cons_self))))) (by have h := hF _ List.mem_cons_self; have h : 0 ≤ (-1) + ((-1) * ρ 1 + (1 * ρ 2 + 0)) := h; omega) hG
  obtain ⟨k0, -⟩ := H
  exact ⟨_, List.mem_cons_self, ρ, fun _ _ => rfl, (okM_c (pvp 321 (by show 0 + 0 = _; omega) (by show 0 + (1 * ρ 2 + 0) = _; omega) k0) okM_n), okB_n, okF_n⟩
-- gs0
theorem cr_802 (M : pM) (s0 s1 s2 s3 : Int) (b0 : 0 ≤ s0 ∧ s0 ≤ 2) (b1 : 0 ≤ s1 ∧ s1 ≤ 63) (b2 : 0 ≤ s2 ∧ s2 ≤ 1980) (b3 : (-2147483648) ≤ s3 ∧ s3 ≤ 2147483647) (m0 : HP 331 (0 : Int) (0 : Int) M) (m1 : (0 ≤ (s0) ∧ M 58 (s0).toNat = (s3))) (m2 : (0 ≤ (0 : Int) ∧ M 59 (0 : Int).toNat = (s0))) (m3 : (0 ≤ (0 : Int) ∧ M 56 (0 : Int).toNat = (s1))) (m4 : (0 ≤ (s1) ∧ M 57 (s1).toNat = (s2))) (hG : gI M) : (HP 330 (0 : Int) (0 : Int) (st M 58 (s0).toNat ((-2) * s2 + s3)) ∧ True) := by
  have hj : hrow 59 1 M 0 = s0.toNat := hrow_v (by decide) (by have h : M 59 0 = s0 := m2.2; rw [h]; omega)
  have hp : ∀ o, o < 0 → hrow 59 1 M o = hrow 59 0 M o := fun o ho => hrow_lt ho (by decide)
  have hz : 2 * s2 = hmC M 0 := (hmC_v (o := 0) (c := s1.toNat) (by decide) (by omega) (by have h : M 56 0 = s1 := m3.2; rw [h]; omega) m4.2).symm
  have hl := Eq.mp hp_331 m0
  refine ⟨Eq.mpr hp_330 (fun a ha => ?_), trivial⟩
  rw [hmC_st (by decide) (by decide), hrow_st (by decide)]
  exact ld_d (R := fun a => M 58 a) (R' := fun a => st M 58 (s0).toNat ((-2) * s2 + s3) 58 a) hp hj hl (fun a ha => by
      show st M 58 (s0).toNat ((-2) * s2 + s3) 58 a = if a = s0.toNat then M 58 s0.toNat - 2 * s2 else M 58 a
      rw [hst_v]
      by_cases e : a = s0.toNat
      · rw [if_pos e, if_pos e, m1.2]; omega
      · rw [if_neg e, if_neg e]) hz (by omega) a ha
theorem rul_802 : Rul r_802 := by
  refine ⟨fun h => (by cases h), fun gi gv hg ρ M hm hB hF hG => ?_⟩
  obtain ⟨g1, g2⟩ := List.cons.inj (show ([aI ((0 : Int), ([(0, 1)] : List (Nat × Int))), aI ((0 : Int), ([(2, (-2)), (3, 1)] : List (Nat × Int)))] : List av) = [.inl gi, .inl gv] from hg)
  obtain ⟨g2, -⟩ := List.cons.inj g2
  cases g1
  cases g2
  have ei : ev ρ ((0 : Int), ([(0, 1)] : List (Nat × Int))) = ((ρ 0)) := by show 0 + (1 * ρ 0 + 0) = _; omega
  have ew : ev ρ ((0 : Int), ([(2, (-2)), (3, 1)] : List (Nat × Int))) = ((-2) * (ρ 2) + (ρ 3)) := by show 0 + ((-2) * ρ 2 + (1 * ρ 3 + 0)) = _; omega
  rw [show (st M (ctj r_802) (ev ρ ((0 : Int), ([(0, 1)] : List (Nat × Int)))).toNat (ev ρ ((0 : Int), ([(2, (-2)), (3, 1)] : List (Nat × Int))))) = (st M 58 ((ρ 0)).toNat ((-2) * (ρ 2) + (ρ 3))) from by rw [ei, ew]; rfl]
  have H := cr_802 M (ρ 0) (ρ 1) (ρ 2) (ρ 3) (hB _ List.mem_cons_self) (hB _ (List.mem_cons_of_mem _ List.mem_cons_self)) (hB _ (List.mem_cons_of_mem _ (List.mem_cons_of_mem _ List.mem_cons_self))) (hB _ (List.mem_cons_of_mem _ (List.mem_cons_of_mem _ (List.mem_cons_of_mem _ List.mem_cons_self)))) (cvp 331 (x' := (0 : Int)) (y' := (0 : Int)) (by show 0 + 0 = _; omega) (by show 0 + 0 = _; omega) (hm _ List.mem_cons_self)) (cvm (c := 58) (by decide) (x' := ((ρ 0))) (y' := ((ρ 3))) (by show 0 + (1 * ρ 0 + 0) = _; omega) (by show 0 + (1 * ρ 3 + 0) = _; omega) (hm _ (List.mem_cons_of_mem _ List.mem_cons_self))) (cvm (c := 59) (by decide) (x' := (0 : Int)) (y' := ((ρ 0))) (by show 0 + 0 = _; omega) (by show 0 + (1 * ρ 0 + 0) = _; omega) (hm _ (List.mem_cons_of_mem _ (List.mem_cons_of_mem _ List.mem_cons_self)))) (cvm (c := 56) (by decide) (x' := (0 : Int)) (y' := ((ρ 1))) (by show 0 + 0 = _; omega) (by show 0 + (1 * ρ 1 + 0) = _; omega) (hm _ (List.mem_cons_of_mem _ (List.mem_cons_of_mem _ (List.mem_cons_of_mem _ List.mem_cons_self))))) (cvm (c := 57) (by decide) (x' := ((ρ 1))) (y' := ((ρ 2))) (by show 0 + (1 * ρ 1 + 0) = _; omega) (by show 0 + (1 * ρ 2 + 0) = _; omega) (hm _ (List.mem_cons_of_mem _ (List.mem_cons_of_mem _ (List.mem_cons_of_mem _ (List.mem_cons_of_mem _ List.mem_cons_self)))))) hG
  obtain ⟨k0, -⟩ := H
  exact ⟨_, List.mem_cons_self, ρ, fun _ _ => rfl, (okM_c (pvp 330 (by show 0 + 0 = _; omega) (by show 0 + 0 = _; omega) k0) okM_n), okB_n, okF_n⟩
-- gsb0
theorem cr_803 (M : pM) (s0 s1 s2 s3 : Int) (b0 : 0 ≤ s0 ∧ s0 ≤ 2) (b1 : 0 ≤ s1 ∧ s1 ≤ 63) (b2 : 0 ≤ s2 ∧ s2 ≤ 1980) (b3 : (-2147483648) ≤ s3 ∧ s3 ≤ 2147483647) (m0 : HP 331 (0 : Int) (0 : Int) M) (m1 : (0 ≤ (s0) ∧ M 58 (s0).toNat = (s3))) (m2 : (0 ≤ (0 : Int) ∧ M 59 (0 : Int).toNat = (s0))) (m3 : (0 ≤ (0 : Int) ∧ M 56 (0 : Int).toNat = (s1))) (m4 : (0 ≤ (s1) ∧ M 57 (s1).toNat = (s2))) (hG : gI M) : (0 ≤ ((-2) * s2 + s3) ∧ True) := by
  have hj : hrow 59 1 M 0 = s0.toNat := hrow_v (by decide) (by have h : M 59 0 = s0 := m2.2; rw [h]; omega)
  have hp : ∀ o, o < 0 → hrow 59 1 M o = hrow 59 0 M o := fun o ho => hrow_lt ho (by decide)
  have hz : 2 * s2 = hmC M 0 := (hmC_v (o := 0) (c := s1.toNat) (by decide) (by omega) (by have h : M 56 0 = s1 := m3.2; rw [h]; omega) m4.2).symm
  have k1 := (Eq.mp hp_331 m0) s0.toNat (by omega)
  rw [m1.2] at k1
  have k2 : hps (hmC M) (hrow 59 1 M) s0.toNat 1 = hps (hmC M) (hrow 59 1 M) s0.toNat 0 + (if hrow 59 1 M 0 = s0.toNat then hmC M 0 else 0) := rfl
  rw [hj, if_pos rfl] at k2
  have k3 := hps_0 (t := hrow 59 1 M) (a := s0.toNat) (hmC_0 hG) 0
  exact ⟨by omega, trivial⟩
theorem rul_803 : Rul r_803 := by
  refine ⟨fun _ ρ M hm hB hF hG => ?_, fun gi gv hg => (by cases hg)⟩
  have H := cr_803 M (ρ 0) (ρ 1) (ρ 2) (ρ 3) (hB _ List.mem_cons_self) (hB _ (List.mem_cons_of_mem _ List.mem_cons_self)) (hB _ (List.mem_cons_of_mem _ (List.mem_cons_of_mem _ List.mem_cons_self))) (hB _ (List.mem_cons_of_mem _ (List.mem_cons_of_mem _ (List.mem_cons_of_mem _ List.mem_cons_self)))) (cvp 331 (x' := (0 : Int)) (y' := (0 : Int)) (by show 0 + 0 = _; omega) (by show 0 + 0 = _; omega) (hm _ List.mem_cons_self)) (cvm (c := 58) (by decide) (x' := ((ρ 0))) (y' := ((ρ 3))) (by show 0 + (1 * ρ 0 + 0) = _; omega) (by show 0 + (1 * ρ 3 + 0) = _; omega) (hm _ (List.mem_cons_of_mem _ List.mem_cons_self))) (cvm (c := 59) (by decide) (x' := (0 : Int)) (y' := ((ρ 0))) (by show 0 + 0 = _; omega) (by show 0 + (1 * ρ 0 + 0) = _; omega) (hm _ (List.mem_cons_of_mem _ (List.mem_cons_of_mem _ List.mem_cons_self)))) (cvm (c := 56) (by decide) (x' := (0 : Int)) (y' := ((ρ 1))) (by show 0 + 0 = _; omega) (by show 0 + (1 * ρ 1 + 0) = _; omega) (hm _ (List.mem_cons_of_mem _ (List.mem_cons_of_mem _ (List.mem_cons_of_mem _ List.mem_cons_self))))) (cvm (c := 57) (by decide) (x' := ((ρ 1))) (y' := ((ρ 2))) (by show 0 + (1 * ρ 1 + 0) = _; omega) (by show 0 + (1 * ρ 2 + 0) = _; omega) (hm _ (List.mem_cons_of_mem _ (List.mem_cons_of_mem _ (List.mem_cons_of_mem _ (List.mem_cons_of_mem _ List.mem_cons_self)))))) hG
  obtain ⟨f0, -⟩ := H
  exact ⟨_, List.mem_cons_self, ρ, fun _ _ => rfl, okM_n, okB_n, (okF_c (by show 0 ≤ 0 + ((-2) * ρ 2 + (1 * ρ 3 + 0)); omega) okF_n)⟩
-- gn0
theorem cr_804 (M : pM) (s0 s1 s2 : Int) (b0 : 0 ≤ s0 ∧ s0 ≤ 2) (b1 : 1 ≤ s1 ∧ s1 ≤ 3) (b2 : 0 ≤ s2 ∧ s2 ≤ 9) (m0 : HP 311 (s1) (s1) M) (m1 : (0 ≤ (0 : Int) ∧ M 59 (0 : Int).toNat = (s0))) (m2 : (0 ≤ (1 : Int) ∧ M 55 (1 : Int).toNat = (s2))) (f0 : 0 ≤ ((-1) * s0 + s1 - 1)) (f1 : 0 ≤ (s2 - 1)) (hG : gI M) : (HP 310 (s0 + 1) (s1) M ∧ True) := by
  obtain ⟨j0, T0, t1, t2, t3, t4, t5, t6, t7⟩ := Eq.mp hp_311 m0
  have hj : hrow 59 1 M 0 = s0.toNat := hrow_v (by decide) (by have h : M 59 0 = s0 := m1.2; rw [h]; omega)
  have hp : ∀ o, o < 0 → hrow 59 1 M o = hrow 59 0 M o := fun o ho => hrow_lt ho (by decide)
  have en : hnC M = s2.toNat := hnC_v (by omega) (by have h : M 55 1 = s2 := m2.2; rw [h]; omega)
  have ej : j0 = T0 := by omega
  subst ej
  exact ⟨Eq.mpr hp_310 ⟨s0.toNat + 1, j0, t1, t2, by omega, by omega, by omega, fun o ho => by rw [← hp o ho]; exact t6 o (by omega), hj_up hp hj (by omega) (by rw [en]; omega) t7⟩, trivial⟩
theorem rul_804 : Rul r_804 := by
  refine ⟨fun _ ρ M hm hB hF hG => ?_, fun gi gv hg => (by cases hg)⟩
  have H := cr_804 M (ρ 0) (ρ 1) (ρ 2) (hB _ List.mem_cons_self) (hB _ (List.mem_cons_of_mem _ List.mem_cons_self)) (hB _ (List.mem_cons_of_mem _ (List.mem_cons_of_mem _ List.mem_cons_self))) (cvp 311 (x' := ((ρ 1))) (y' := ((ρ 1))) (by show 0 + (1 * ρ 1 + 0) = _; omega) (by show 0 + (1 * ρ 1 + 0) = _; omega) (hm _ List.mem_cons_self)) (cvm (c := 59) (by decide) (x' := (0 : Int)) (y' := ((ρ 0))) (by show 0 + 0 = _; omega) (by show 0 + (1 * ρ 0 + 0) = _; omega) (hm _ (List.mem_cons_of_mem _ List.mem_cons_self))) (cvm (c := 55) (by decide) (x' := (1 : Int)) (y' := ((ρ 2))) (by show 1 + 0 = _; omega) (by show 0 + (1 * ρ 2 + 0) = _; omega) (hm _ (List.mem_cons_of_mem _ (List.mem_cons_of_mem _ List.mem_cons_self)))) (by have h := hF _ List.mem_cons_self; have h : 0 ≤ (-1) + ((-1) * ρ 0 + (1 * ρ 1 + 0)) := h; omega) (by have h := hF _ (List.mem_cons_of_mem _ List.mem_cons_self); have h : 0 ≤ (-1) + (1 * ρ 2 + 0) := h; omega) hG
  obtain ⟨k0, -⟩ := H
  exact ⟨_, List.mem_cons_self, ρ, fun _ _ => rfl, (okM_c (pvp 310 (by show 1 + (1 * ρ 0 + 0) = _; omega) (by show 0 + (1 * ρ 1 + 0) = _; omega) k0) okM_n), okB_n, okF_n⟩
-- ge0
theorem cr_805 (M : pM) (s0 s1 s2 s3 s4 : Int) (b0 : 0 ≤ s0 ∧ s0 ≤ 2) (b1 : 1 ≤ s1 ∧ s1 ≤ 3) (b2 : 0 ≤ s2 ∧ s2 ≤ 35640) (b3 : 0 ≤ s3 ∧ s3 ≤ 0) (b4 : 0 ≤ s4 ∧ s4 ≤ 9) (m0 : HP 310 (s0 + 1) (s1) M) (m1 : HP 330 (0 : Int) (0 : Int) M) (m2 : (0 ≤ (s0) ∧ M 58 (s0).toNat = (s3))) (m3 : HP 320 (s0) (s2) M) (m4 : (0 ≤ (1 : Int) ∧ M 55 (1 : Int).toNat = (s4))) (f0 : 0 ≤ (s4 - 1)) (f1 : 0 ≤ ((-1) * s0 + s1 - 1)) (hG : gI M) : (HP 310 (s1) (s1) M ∧ True) := by
  obtain ⟨j0, T0, t1, t2, t3, t4, t5, t6, t7⟩ := Eq.mp hp_310 m0
  obtain ⟨j1, x1, x2, x3⟩ := Eq.mp hp_320 m3
  have en : hnC M = s4.toNat := hnC_v (by omega) (by have h : M 55 1 = s4 := m4.2; rw [h]; omega)
  have ej : j1 = s0.toNat := by omega
  subst ej
  have ek : j0 = s0.toNat + 1 := by omega
  subst ek
  have k1 := (Eq.mp hp_330 m1) s0.toNat (by omega)
  rw [m2.2] at k1
  exact ⟨Eq.mpr hp_310 ⟨T0, T0, t1, t2, Nat.le_refl _, by omega, by omega, t6, hj_sw (by rw [en]; omega) (by omega) t2 t7 x3 (by omega)⟩, trivial⟩
theorem rul_805 : Rul r_805 := by
  refine ⟨fun _ ρ M hm hB hF hG => ?_, fun gi gv hg => (by cases hg)⟩
  have H := cr_805 M (ρ 0) (ρ 1) (ρ 2) (ρ 3) (ρ 4) (hB _ List.mem_cons_self) (hB _ (List.mem_cons_of_mem _ List.mem_cons_self)) (hB _ (List.mem_cons_of_mem _ (List.mem_cons_of_mem _ List.mem_cons_self))) (hB _ (List.mem_cons_of_mem _ (List.mem_cons_of_mem _ (List.mem_cons_of_mem _ List.mem_cons_self)))) (hB _ (List.mem_cons_of_mem _ (List.mem_cons_of_mem _ (List.mem_cons_of_mem _ (List.mem_cons_of_mem _ List.mem_cons_self))))) (cvp 310 (x' := ((ρ 0) + 1)) (y' := ((ρ 1))) (by show 1 + (1 * ρ 0 + 0) = _; omega) (by show 0 + (1 * ρ 1 + 0) = _; omega) (hm _ List.mem_cons_self)) (cvp 330 (x' := (0 : Int)) (y' := (0 : Int)) (by show 0 + 0 = _; omega) (by show 0 + 0 = _; omega) (hm _ (List.mem_cons_of_mem _ List.mem_cons_self))) (cvm (c := 58) (by decide) (x' := ((ρ 0))) (y' := ((ρ 3))) (by show 0 + (1 * ρ 0 + 0) = _; omega) (by show 0 + (1 * ρ 3 + 0) = _; omega) (hm _ (List.mem_cons_of_mem _ (List.mem_cons_of_mem _ List.mem_cons_self)))) (cvp 320 (x' := ((ρ 0))) (y' := ((ρ 2))) (by show 0 + (1 * ρ 0 + 0) = _; omega) (by show 0 + (1 * ρ 2 + 0) = _; omega) (hm _ (List.mem_cons_of_mem _ (List.mem_cons_of_mem _ (List.mem_cons_of_mem _ List.mem_cons_self))))) (cvm (c := 55) (by decide) (x' := (1 : Int)) (y' := ((ρ 4))) (by show 1 + 0 = _; omega) (by show 0 + (1 * ρ 4 + 0) = _; omega) (hm _ (List.mem_cons_of_mem _ (List.mem_cons_of_mem _ (List.mem_cons_of_mem _ (List.mem_cons_of_mem _ List.mem_cons_self)))))) (by have h := hF _ List.mem_cons_self; have h : 0 ≤ (-1) + (1 * ρ 4 + 0) := h; omega) (by have h := hF _ (List.mem_cons_of_mem _ List.mem_cons_self); have h : 0 ≤ (-1) + ((-1) * ρ 0 + (1 * ρ 1 + 0)) := h; omega) hG
  obtain ⟨k0, -⟩ := H
  exact ⟨_, List.mem_cons_self, ρ, fun _ _ => rfl, (okM_c (pvp 310 (by show 0 + (1 * ρ 1 + 0) = _; omega) (by show 0 + (1 * ρ 1 + 0) = _; omega) k0) okM_n), okB_n, okF_n⟩
-- gz0
theorem cr_806 (M : pM) (s0 s1 s2 : Int) (b0 : 0 ≤ s0 ∧ s0 ≤ 2) (b1 : 0 ≤ s1 ∧ s1 ≤ 35640) (b2 : (-2147483648) ≤ s2 ∧ s2 ≤ 2147483647) (m0 : HP 320 (s0) (s1) M) (m1 : HP 330 (0 : Int) (0 : Int) M) (m2 : (0 ≤ (s0) ∧ M 58 (s0).toNat = (s2))) (f0 : 0 ≤ (s2 - 1)) (hG : gI M) : (HP 320 (s0 + 1) (s1) M ∧ True) := by
  obtain ⟨j1, x1, x2, x3⟩ := Eq.mp hp_320 m0
  have ej : j1 = s0.toNat := by omega
  subst ej
  have k1 := (Eq.mp hp_330 m1) s0.toNat (by omega)
  rw [m2.2] at k1
  exact ⟨Eq.mpr hp_320 ⟨s0.toNat + 1, by omega, by omega, mx_z x3 (by omega)⟩, trivial⟩
theorem rul_806 : Rul r_806 := by
  refine ⟨fun _ ρ M hm hB hF hG => ?_, fun gi gv hg => (by cases hg)⟩
  have H := cr_806 M (ρ 0) (ρ 1) (ρ 2) (hB _ List.mem_cons_self) (hB _ (List.mem_cons_of_mem _ List.mem_cons_self)) (hB _ (List.mem_cons_of_mem _ (List.mem_cons_of_mem _ List.mem_cons_self))) (cvp 320 (x' := ((ρ 0))) (y' := ((ρ 1))) (by show 0 + (1 * ρ 0 + 0) = _; omega) (by show 0 + (1 * ρ 1 + 0) = _; omega) (hm _ List.mem_cons_self)) (cvp 330 (x' := (0 : Int)) (y' := (0 : Int)) (by show 0 + 0 = _; omega) (by show 0 + 0 = _; omega) (hm _ (List.mem_cons_of_mem _ List.mem_cons_self))) (cvm (c := 58) (by decide) (x' := ((ρ 0))) (y' := ((ρ 2))) (by show 0 + (1 * ρ 0 + 0) = _; omega) (by show 0 + (1 * ρ 2 + 0) = _; omega) (hm _ (List.mem_cons_of_mem _ (List.mem_cons_of_mem _ List.mem_cons_self)))) (by have h := hF _ List.mem_cons_self; have h : 0 ≤ (-1) + (1 * ρ 2 + 0) := h; omega) hG
  obtain ⟨k0, -⟩ := H
  exact ⟨_, List.mem_cons_self, ρ, fun _ _ => rfl, (okM_c (pvp 320 (by show 1 + (1 * ρ 0 + 0) = _; omega) (by show 0 + (1 * ρ 1 + 0) = _; omega) k0) okM_n), okB_n, okF_n⟩
-- gf0
theorem cr_807 (M : pM) (s0 s1 : Int) (b0 : 0 ≤ s0 ∧ s0 ≤ 3) (b1 : 1 ≤ s1 ∧ s1 ≤ 3) (m0 : HP 310 (s0) (s1) M) (f0 : 0 ≤ (s0 + (-1) * s1)) (f1 : 0 ≤ ((-1) * s0 + s1)) (hG : gI M) : (HP 310 (s1) (s1) M ∧ True) := by
  obtain ⟨j0, T0, t1, t2, t3, t4, t5, t6, t7⟩ := Eq.mp hp_310 m0
  have ej : j0 = T0 := by omega
  subst ej
  exact ⟨Eq.mpr hp_310 ⟨j0, j0, t1, t2, Nat.le_refl _, by omega, by omega, t6, t7⟩, trivial⟩
theorem rul_807 : Rul r_807 := by
  refine ⟨fun _ ρ M hm hB hF hG => ?_, fun gi gv hg => (by cases hg)⟩
  have H := cr_807 M (ρ 0) (ρ 1) (hB _ List.mem_cons_self) (hB _ (List.mem_cons_of_mem _ List.mem_cons_self)) (cvp 310 (x' := ((ρ 0))) (y' := ((ρ 1))) (by show 0 + (1 * ρ 0 + 0) = _; omega) (by show 0 + (1 * ρ 1 + 0) = _; omega) (hm _ List.mem_cons_self)) (by have h := hF _ List.mem_cons_self; have h : 0 ≤ 0 + (1 * ρ 0 + ((-1) * ρ 1 + 0)) := h; omega) (by have h := hF _ (List.mem_cons_of_mem _ List.mem_cons_self); have h : 0 ≤ 0 + ((-1) * ρ 0 + (1 * ρ 1 + 0)) := h; omega) hG
  obtain ⟨k0, -⟩ := H
  exact ⟨_, List.mem_cons_self, ρ, fun _ _ => rfl, (okM_c (pvp 310 (by show 0 + (1 * ρ 1 + 0) = _; omega) (by show 0 + (1 * ρ 1 + 0) = _; omega) k0) okM_n), okB_n, okF_n⟩
-- gb0
theorem cr_808 (M : pM) (s0 s1 s2 : Int) (b0 : 0 ≤ s0 ∧ s0 ≤ 35640) (b1 : 0 ≤ s1 ∧ s1 ≤ 3) (b2 : 0 ≤ s2 ∧ s2 ≤ 9) (m0 : HP 320 (s1) (s0) M) (m1 : HP 342 (s2) (0 : Int) M) (f0 : 0 ≤ (s2)) (hG : gI M) : (0 ≤ ((-1) * s0) ∧ True) := by
  obtain ⟨j1, x1, x2, x3⟩ := Eq.mp hp_320 m0
  obtain ⟨h1, h2, h3⟩ := Eq.mp hp_342 m1
  obtain ⟨a, a1, a2⟩ := x3.2.1
  have k := hps_b (m := hmC M) (t := (hrow 59 0 M)) (a := a) (K := 3960) (by decide) (g := 0) (fun o ho => h3 o (by omega))
  rw [a2] at k
  exact ⟨by omega, trivial⟩
theorem rul_808 : Rul r_808 := by
  refine ⟨fun _ ρ M hm hB hF hG => ?_, fun gi gv hg => (by cases hg)⟩
  have H := cr_808 M (ρ 0) (ρ 1) (ρ 2) (hB _ List.mem_cons_self) (hB _ (List.mem_cons_of_mem _ List.mem_cons_self)) (hB _ (List.mem_cons_of_mem _ (List.mem_cons_of_mem _ List.mem_cons_self))) (cvp 320 (x' := ((ρ 1))) (y' := ((ρ 0))) (by show 0 + (1 * ρ 1 + 0) = _; omega) (by show 0 + (1 * ρ 0 + 0) = _; omega) (hm _ List.mem_cons_self)) (cvp 342 (x' := ((ρ 2))) (y' := (0 : Int)) (by show 0 + (1 * ρ 2 + 0) = _; omega) (by show 0 + 0 = _; omega) (hm _ (List.mem_cons_of_mem _ List.mem_cons_self))) (by have h := hF _ List.mem_cons_self; have h : 0 ≤ 0 + (1 * ρ 2 + 0) := h; omega) hG
  obtain ⟨f0, -⟩ := H
  exact ⟨_, List.mem_cons_self, ρ, fun _ _ => rfl, okM_n, okB_n, (okF_c (by show 0 ≤ 0 + ((-1) * ρ 0 + 0); omega) okF_n)⟩
-- gpr1
theorem cr_809 (M : pM) (s0 s1 s2 s3 : Int) (b0 : 1 ≤ s0 ∧ s0 ≤ 3) (b1 : 0 ≤ s1 ∧ s1 ≤ 35640) (b2 : 0 ≤ s2 ∧ s2 ≤ 9) (b3 : 0 ≤ s3 ∧ s3 ≤ 1000000) (m0 : HP 311 (0 : Int) (s0) M) (m1 : HP 321 (0 : Int) (s1) M) (m2 : (0 ≤ (1 : Int) ∧ M 55 (1 : Int).toNat = (s2))) (m3 : (0 ≤ (6 : Int) ∧ M 55 (6 : Int).toNat = (s3))) (f0 : 0 ≤ (s1 + (-1) * s3)) (f1 : 0 ≤ (s2 - 1)) (hG : gI M) : (HP 311 (s0) (s0) M ∧ True) := by
  obtain ⟨j0, T0, t1, t2, t3, t4, t5, t6, t7⟩ := Eq.mp hp_311 m0
  obtain ⟨j1, x1, x2, x3⟩ := Eq.mp hp_321 m1
  have en : hnC M = s2.toNat := hnC_v (by omega) (by have h : M 55 1 = s2 := m2.2; rw [h]; omega)
  have eb : M 55 6 = s3 := m3.2
  have ej : j0 = 0 := by omega
  subst ej
  exact ⟨Eq.mpr hp_311 ⟨T0, T0, t1, t2, Nat.le_refl _, by omega, by omega, t6, hj_pr (hmC_0 hG) (by rw [en]; omega) t7 x3 (by rw [eb]; omega)⟩, trivial⟩
theorem rul_809 : Rul r_809 := by
  refine ⟨fun _ ρ M hm hB hF hG => ?_, fun gi gv hg => (by cases hg)⟩
  have H := cr_809 M (ρ 0) (ρ 1) (ρ 2) (ρ 3) (hB _ List.mem_cons_self) (hB _ (List.mem_cons_of_mem _ List.mem_cons_self)) (hB _ (List.mem_cons_of_mem _ (List.mem_cons_of_mem _ List.mem_cons_self))) (hB _ (List.mem_cons_of_mem _ (List.mem_cons_of_mem _ (List.mem_cons_of_mem _ List.mem_cons_self)))) (cvp 311 (x' := (0 : Int)) (y' := ((ρ 0))) (by show 0 + 0 = _; omega) (by show 0 + (1 * ρ 0 + 0) = _; omega) (hm _ List.mem_cons_self)) (cvp 321 (x' := (0 : Int)) (y' := ((ρ 1))) (by show 0 + 0 = _; omega) (by show 0 + (1 * ρ 1 + 0) = _; omega) (hm _ (List.mem_cons_of_mem _ List.mem_cons_self))) (cvm (c := 55) (by decide) (x' := (1 : Int)) (y' := ((ρ 2))) (by show 1 + 0 = _; omega) (by show 0 + (1 * ρ 2 + 0) = _; omega) (hm _ (List.mem_cons_of_mem _ (List.mem_cons_of_mem _ List.mem_cons_self)))) (cvm (c := 55) (by decide) (x' := (6 : Int)) (y' := ((ρ 3))) (by show 6 + 0 = _; omega) (by show 0 + (1 * ρ 3 + 0) = _; omega) (hm _ (List.mem_cons_of_mem _ (List.mem_cons_of_mem _ (List.mem_cons_of_mem _ List.mem_cons_self))))) (by have h := hF _ List.mem_cons_self; have h : 0 ≤ 0 + (1 * ρ 1 + ((-1) * ρ 3 + 0)) := h; omega) (by have h := hF _ (List.mem_cons_of_mem _ List.mem_cons_self); have h : 0 ≤ (-1) + (1 * ρ 2 + 0) := h; omega) hG
  obtain ⟨k0, -⟩ := H
  exact ⟨_, List.mem_cons_self, ρ, fun _ _ => rfl, (okM_c (pvp 311 (by show 0 + (1 * ρ 0 + 0) = _; omega) (by show 0 + (1 * ρ 0 + 0) = _; omega) k0) okM_n), okB_n, okF_n⟩
-- glf1
theorem cr_810 (M : pM) (s0 s1 s2 s3 : Int) (b0 : 1 ≤ s0 ∧ s0 ≤ 3) (b1 : 0 ≤ s1 ∧ s1 ≤ 35640) (b2 : 0 ≤ s2 ∧ s2 ≤ 9) (b3 : 0 ≤ s3 ∧ s3 ≤ 1000000) (m0 : HP 311 (0 : Int) (s0) M) (m1 : HP 321 (0 : Int) (s1) M) (m2 : (0 ≤ (1 : Int) ∧ M 55 (1 : Int).toNat = (s2))) (m3 : (0 ≤ (6 : Int) ∧ M 55 (6 : Int).toNat = (s3))) (f0 : 0 ≤ ((-1) * s1 + s3 - 1)) (f1 : 0 ≤ ((-1) * s2 + 1)) (f2 : 0 ≤ (s2 - 1)) (hG : gI M) : (HP 340 (s1) (s0) M ∧ True) := by
  obtain ⟨j0, T0, t1, t2, t3, t4, t5, t6, t7⟩ := Eq.mp hp_311 m0
  obtain ⟨j1, x1, x2, x3⟩ := Eq.mp hp_321 m1
  have en : hnC M = s2.toNat := hnC_v (by omega) (by have h : M 55 1 = s2 := m2.2; rw [h]; omega)
  have eb : M 55 6 = s3 := m3.2
  have ej : j0 = 0 := by omega
  subst ej
  have en2 : hnC M = 1 := by rw [en]; omega
  rw [en2] at t7
  obtain ⟨k1, k2⟩ := hj_lf t7 x3 (by rw [eb]; omega)
  exact ⟨Eq.mpr hp_340 ⟨T0, t1, t2, by omega, by rw [en2]; exact fun o ho => by rw [hrow_lt ho (by decide)]; exact t6 o ho, by rw [en2]; exact (hco_c (fun o ho => hrow_lt ho (by decide))).trans k1, by rw [en2]; exact fun t ht hl => k2 t ht (hlx_c hl (fun o ho => hrow_lt ho (by decide)))⟩, trivial⟩
theorem rul_810 : Rul r_810 := by
  refine ⟨fun _ ρ M hm hB hF hG => ?_, fun gi gv hg => (by cases hg)⟩
  have H := cr_810 M (ρ 0) (ρ 1) (ρ 2) (ρ 3) (hB _ List.mem_cons_self) (hB _ (List.mem_cons_of_mem _ List.mem_cons_self)) (hB _ (List.mem_cons_of_mem _ (List.mem_cons_of_mem _ List.mem_cons_self))) (hB _ (List.mem_cons_of_mem _ (List.mem_cons_of_mem _ (List.mem_cons_of_mem _ List.mem_cons_self)))) (cvp 311 (x' := (0 : Int)) (y' := ((ρ 0))) (by show 0 + 0 = _; omega) (by show 0 + (1 * ρ 0 + 0) = _; omega) (hm _ List.mem_cons_self)) (cvp 321 (x' := (0 : Int)) (y' := ((ρ 1))) (by show 0 + 0 = _; omega) (by show 0 + (1 * ρ 1 + 0) = _; omega) (hm _ (List.mem_cons_of_mem _ List.mem_cons_self))) (cvm (c := 55) (by decide) (x' := (1 : Int)) (y' := ((ρ 2))) (by show 1 + 0 = _; omega) (by show 0 + (1 * ρ 2 + 0) = _; omega) (hm _ (List.mem_cons_of_mem _ (List.mem_cons_of_mem _ List.mem_cons_self)))) (cvm (c := 55) (by decide) (x' := (6 : Int)) (y' := ((ρ 3))) (by show 6 + 0 = _; omega) (by show 0 + (1 * ρ 3 + 0) = _; omega) (hm _ (List.mem_cons_of_mem _ (List.mem_cons_of_mem _ (List.mem_cons_of_mem _ List.mem_cons_self))))) (by have h := hF _ List.mem_cons_self; have h : 0 ≤ (-1) + ((-1) * ρ 1 + (1 * ρ 3 + 0)) := h; omega) (by have h := hF _ (List.mem_cons_of_mem _ List.mem_cons_self); have h : 0 ≤ 1 + ((-1) * ρ 2 + 0) := h; omega) (by have h := hF _ (List.mem_cons_of_mem _ (List.mem_cons_of_mem _ List.mem_cons_self)); have h : 0 ≤ (-1) + (1 * ρ 2 + 0) := h; omega) hG
  obtain ⟨k0, -⟩ := H
  exact ⟨_, List.mem_cons_self, ρ, fun _ _ => rfl, (okM_c (pvp 340 (by show 0 + (1 * ρ 1 + 0) = _; omega) (by show 0 + (1 * ρ 0 + 0) = _; omega) k0) okM_n), okB_n, okF_n⟩
-- glx1
theorem cr_811 (M : pM) (s0 s1 s2 s3 : Int) (b0 : 1 ≤ s0 ∧ s0 ≤ 3) (b1 : 0 ≤ s1 ∧ s1 ≤ 35640) (b2 : 0 ≤ s2 ∧ s2 ≤ 9) (b3 : 0 ≤ s3 ∧ s3 ≤ 1000000) (m0 : HP 340 (s1) (s0) M) (m1 : HP 341 (s2) (0 : Int) M) (m2 : (0 ≤ (1 : Int) ∧ M 55 (1 : Int).toNat = (s2))) (m3 : (0 ≤ (6 : Int) ∧ M 55 (6 : Int).toNat = (s3))) (f0 : 0 ≤ ((-1) * s2 + 1)) (f1 : 0 ≤ (s2 - 1)) (f2 : 0 ≤ (s1 + (-1) * s3)) (f3 : 0 ≤ ((-1) * s1 + s3)) (hG : gI M) : (HP 311 (s0) (s0) M ∧ True) := by
  obtain ⟨T0, q1, q2, q3, q4, q5, q6⟩ := Eq.mp hp_340 m0
  have c2 := Eq.mp hp_341 m1
  have en : hnC M = s2.toNat := hnC_v (by omega) (by have h : M 55 1 = s2 := m2.2; rw [h]; omega)
  have eb : M 55 6 = s3 := m3.2
  have en2 : hnC M = 1 := by rw [en]; omega
  rw [en2] at q4 q5 q6
  exact ⟨Eq.mpr hp_311 ⟨T0, T0, q1, q2, Nat.le_refl _, by omega, by omega, fun o ho => by rw [← hrow_lt (k := 9) ho (by decide)]; exact q4 o ho, by
      rw [en2]
      exact hj_le (q := hrow 59 9 M) (fun o ho => hrow_lt ho (by decide)) (fun o ho => hrow_e (by omega) (c2 o (by omega) (by omega))) q4 (q5.trans (by rw [eb]; omega)) (fun t ht hl => by have := q6 t ht hl; rw [eb]; omega)⟩, trivial⟩
theorem rul_811 : Rul r_811 := by
  refine ⟨fun _ ρ M hm hB hF hG => ?_, fun gi gv hg => (by cases hg)⟩
  have H := cr_811 M (ρ 0) (ρ 1) (ρ 2) (ρ 3) (hB _ List.mem_cons_self) (hB _ (List.mem_cons_of_mem _ List.mem_cons_self)) (hB _ (List.mem_cons_of_mem _ (List.mem_cons_of_mem _ List.mem_cons_self))) (hB _ (List.mem_cons_of_mem _ (List.mem_cons_of_mem _ (List.mem_cons_of_mem _ List.mem_cons_self)))) (cvp 340 (x' := ((ρ 1))) (y' := ((ρ 0))) (by show 0 + (1 * ρ 1 + 0) = _; omega) (by show 0 + (1 * ρ 0 + 0) = _; omega) (hm _ List.mem_cons_self)) (cvp 341 (x' := ((ρ 2))) (y' := (0 : Int)) (by show 0 + (1 * ρ 2 + 0) = _; omega) (by show 0 + 0 = _; omega) (hm _ (List.mem_cons_of_mem _ List.mem_cons_self))) (cvm (c := 55) (by decide) (x' := (1 : Int)) (y' := ((ρ 2))) (by show 1 + 0 = _; omega) (by show 0 + (1 * ρ 2 + 0) = _; omega) (hm _ (List.mem_cons_of_mem _ (List.mem_cons_of_mem _ List.mem_cons_self)))) (cvm (c := 55) (by decide) (x' := (6 : Int)) (y' := ((ρ 3))) (by show 6 + 0 = _; omega) (by show 0 + (1 * ρ 3 + 0) = _; omega) (hm _ (List.mem_cons_of_mem _ (List.mem_cons_of_mem _ (List.mem_cons_of_mem _ List.mem_cons_self))))) (by have h := hF _ List.mem_cons_self; have h : 0 ≤ 1 + ((-1) * ρ 2 + 0) := h; omega) (by have h := hF _ (List.mem_cons_of_mem _ List.mem_cons_self); have h : 0 ≤ (-1) + (1 * ρ 2 + 0) := h; omega) (by have h := hF _ (List.mem_cons_of_mem _ (List.mem_cons_of_mem _ List.mem_cons_self)); have h : 0 ≤ 0 + (1 * ρ 1 + ((-1) * ρ 3 + 0)) := h; omega) (by have h := hF _ (List.mem_cons_of_mem _ (List.mem_cons_of_mem _ (List.mem_cons_of_mem _ List.mem_cons_self))); have h : 0 ≤ 0 + ((-1) * ρ 1 + (1 * ρ 3 + 0)) := h; omega) hG
  obtain ⟨k0, -⟩ := H
  exact ⟨_, List.mem_cons_self, ρ, fun _ _ => rfl, (okM_c (pvp 311 (by show 0 + (1 * ρ 0 + 0) = _; omega) (by show 0 + (1 * ρ 0 + 0) = _; omega) k0) okM_n), okB_n, okF_n⟩
-- gh1
theorem cr_812 (M : pM) (s0 s1 s2 : Int) (b0 : 0 ≤ s0 ∧ s0 ≤ 2) (b1 : 1 ≤ s1 ∧ s1 ≤ 3) (b2 : 0 ≤ s2 ∧ s2 ≤ 9) (m0 : HP 311 (s0) (s1) M) (m1 : (0 ≤ (1 : Int) ∧ M 59 (1 : Int).toNat = (s0))) (m2 : (0 ≤ (1 : Int) ∧ M 55 (1 : Int).toNat = (s2))) (f0 : 0 ≤ ((-1) * s0 + s1 - 1)) (f1 : 0 ≤ (s2 - 2)) (hG : gI M) : (HP 312 (0 : Int) (s1) M ∧ True) := by
  obtain ⟨j0, T0, t1, t2, t3, t4, t5, t6, t7⟩ := Eq.mp hp_311 m0
  have hj : hrow 59 2 M 1 = s0.toNat := hrow_v (by decide) (by have h : M 59 1 = s0 := m1.2; rw [h]; omega)
  have hp : ∀ o, o < 1 → hrow 59 2 M o = hrow 59 1 M o := fun o ho => hrow_lt ho (by decide)
  have en : hnC M = s2.toNat := hnC_v (by omega) (by have h : M 55 1 = s2 := m2.2; rw [h]; omega)
  have ej : j0 = s0.toNat := by omega
  subst ej
  exact ⟨Eq.mpr hp_312 ⟨0, T0, t1, t2, by omega, by omega, by omega, fun o ho => by
      by_cases e : o = 1
      · rw [e, hj]; omega
      · rw [hp o (by omega)]; exact t6 o (by omega), hj_dn t1 hp hj (by omega) t7⟩, trivial⟩
theorem rul_812 : Rul r_812 := by
  refine ⟨fun _ ρ M hm hB hF hG => ?_, fun gi gv hg => (by cases hg)⟩
  have H := cr_812 M (ρ 0) (ρ 1) (ρ 2) (hB _ List.mem_cons_self) (hB _ (List.mem_cons_of_mem _ List.mem_cons_self)) (hB _ (List.mem_cons_of_mem _ (List.mem_cons_of_mem _ List.mem_cons_self))) (cvp 311 (x' := ((ρ 0))) (y' := ((ρ 1))) (by show 0 + (1 * ρ 0 + 0) = _; omega) (by show 0 + (1 * ρ 1 + 0) = _; omega) (hm _ List.mem_cons_self)) (cvm (c := 59) (by decide) (x' := (1 : Int)) (y' := ((ρ 0))) (by show 1 + 0 = _; omega) (by show 0 + (1 * ρ 0 + 0) = _; omega) (hm _ (List.mem_cons_of_mem _ List.mem_cons_self))) (cvm (c := 55) (by decide) (x' := (1 : Int)) (y' := ((ρ 2))) (by show 1 + 0 = _; omega) (by show 0 + (1 * ρ 2 + 0) = _; omega) (hm _ (List.mem_cons_of_mem _ (List.mem_cons_of_mem _ List.mem_cons_self)))) (by have h := hF _ List.mem_cons_self; have h : 0 ≤ (-1) + ((-1) * ρ 0 + (1 * ρ 1 + 0)) := h; omega) (by have h := hF _ (List.mem_cons_of_mem _ List.mem_cons_self); have h : 0 ≤ (-2) + (1 * ρ 2 + 0) := h; omega) hG
  obtain ⟨k0, -⟩ := H
  exact ⟨_, List.mem_cons_self, ρ, fun _ _ => rfl, (okM_c (pvp 312 (by show 0 + 0 = _; omega) (by show 0 + (1 * ρ 1 + 0) = _; omega) k0) okM_n), okB_n, okF_n⟩
-- gld1
theorem cr_813 (M : pM) (s0 s1 s2 s3 : Int) (b0 : 0 ≤ s0 ∧ s0 ≤ 2) (b1 : (-2147483648) ≤ s1 ∧ s1 ≤ 2147483647) (b2 : 0 ≤ s2 ∧ s2 ≤ 3) (b3 : 0 ≤ s3 ∧ s3 ≤ 35640) (m0 : HP 331 (0 : Int) (0 : Int) M) (m1 : (0 ≤ (s0) ∧ M 58 (s0).toNat = (s1))) (m2 : HP 321 (s2) (s3) M) (hG : gI M) : (0 ≤ (s1) ∧ 0 ≤ ((-1) * s1 + s3) ∧ True) := by
  obtain ⟨j1, x1, x2, x3⟩ := Eq.mp hp_321 m2
  have k1 := (Eq.mp hp_331 m0) s0.toNat (by omega)
  rw [m1.2] at k1
  have k2 := hps_0 (t := (hrow 59 1 M)) (a := s0.toNat) (hmC_0 hG) 1
  have k3 := x3.1 s0.toNat (by omega)
  exact ⟨by omega, by omega, trivial⟩
theorem rul_813 : Rul r_813 := by
  refine ⟨fun _ ρ M hm hB hF hG => ?_, fun gi gv hg => (by cases hg)⟩
  have H := cr_813 M (ρ 0) (ρ 1) (ρ 2) (ρ 3) (hB _ List.mem_cons_self) (hB _ (List.mem_cons_of_mem _ List.mem_cons_self)) (hB _ (List.mem_cons_of_mem _ (List.mem_cons_of_mem _ List.mem_cons_self))) (hB _ (List.mem_cons_of_mem _ (List.mem_cons_of_mem _ (List.mem_cons_of_mem _ List.mem_cons_self)))) (cvp 331 (x' := (0 : Int)) (y' := (0 : Int)) (by show 0 + 0 = _; omega) (by show 0 + 0 = _; omega) (hm _ List.mem_cons_self)) (cvm (c := 58) (by decide) (x' := ((ρ 0))) (y' := ((ρ 1))) (by show 0 + (1 * ρ 0 + 0) = _; omega) (by show 0 + (1 * ρ 1 + 0) = _; omega) (hm _ (List.mem_cons_of_mem _ List.mem_cons_self))) (cvp 321 (x' := ((ρ 2))) (y' := ((ρ 3))) (by show 0 + (1 * ρ 2 + 0) = _; omega) (by show 0 + (1 * ρ 3 + 0) = _; omega) (hm _ (List.mem_cons_of_mem _ (List.mem_cons_of_mem _ List.mem_cons_self)))) hG
  obtain ⟨f0, f1, -⟩ := H
  exact ⟨_, List.mem_cons_self, ρ, fun _ _ => rfl, okM_n, okB_n, (okF_c (by show 0 ≤ 0 + (1 * ρ 1 + 0); omega) (okF_c (by show 0 ≤ 0 + ((-1) * ρ 1 + (1 * ρ 3 + 0)); omega) okF_n))⟩
-- gl1
theorem cr_814 (M : pM) (s0 s1 s2 s3 : Int) (b0 : 0 ≤ s0 ∧ s0 ≤ 2) (b1 : 0 ≤ s1 ∧ s1 ≤ 63) (b2 : 0 ≤ s2 ∧ s2 ≤ 1980) (b3 : 0 ≤ s3 ∧ s3 ≤ 35640) (m0 : HP 331 (0 : Int) (0 : Int) M) (m1 : (0 ≤ (s0) ∧ M 58 (s0).toNat = (s3))) (m2 : (0 ≤ (1 : Int) ∧ M 59 (1 : Int).toNat = (s0))) (m3 : (0 ≤ (1 : Int) ∧ M 56 (1 : Int).toNat = (s1))) (m4 : (0 ≤ (s1) ∧ M 57 (s1).toNat = (s2))) (hG : gI M) : (HP 332 (0 : Int) (0 : Int) (st M 58 (s0).toNat (2 * s2 + s3)) ∧ True) := by
  have hj : hrow 59 2 M 1 = s0.toNat := hrow_v (by decide) (by have h : M 59 1 = s0 := m2.2; rw [h]; omega)
  have hp : ∀ o, o < 1 → hrow 59 2 M o = hrow 59 1 M o := fun o ho => hrow_lt ho (by decide)
  have hz : 2 * s2 = hmC M 1 := (hmC_v (o := 1) (c := s1.toNat) (by decide) (by omega) (by have h : M 56 1 = s1 := m3.2; rw [h]; omega) m4.2).symm
  have hl := Eq.mp hp_331 m0
  refine ⟨Eq.mpr hp_332 (fun a ha => ?_), trivial⟩
  rw [hmC_st (by decide) (by decide), hrow_st (by decide)]
  exact ld_u (R := fun a => M 58 a) (R' := fun a => st M 58 (s0).toNat (2 * s2 + s3) 58 a) hp hj hl (fun a ha => by
      show st M 58 (s0).toNat (2 * s2 + s3) 58 a = if a = s0.toNat then M 58 s0.toNat + 2 * s2 else M 58 a
      rw [hst_v]
      by_cases e : a = s0.toNat
      · rw [if_pos e, if_pos e, m1.2]; omega
      · rw [if_neg e, if_neg e]) hz (by omega) a ha
theorem rul_814 : Rul r_814 := by
  refine ⟨fun h => (by cases h), fun gi gv hg ρ M hm hB hF hG => ?_⟩
  obtain ⟨g1, g2⟩ := List.cons.inj (show ([aI ((0 : Int), ([(0, 1)] : List (Nat × Int))), aI ((0 : Int), ([(2, 2), (3, 1)] : List (Nat × Int)))] : List av) = [.inl gi, .inl gv] from hg)
  obtain ⟨g2, -⟩ := List.cons.inj g2
  cases g1
  cases g2
  have ei : ev ρ ((0 : Int), ([(0, 1)] : List (Nat × Int))) = ((ρ 0)) := by show 0 + (1 * ρ 0 + 0) = _; omega
  have ew : ev ρ ((0 : Int), ([(2, 2), (3, 1)] : List (Nat × Int))) = (2 * (ρ 2) + (ρ 3)) := by show 0 + (2 * ρ 2 + (1 * ρ 3 + 0)) = _; omega
  rw [show (st M (ctj r_814) (ev ρ ((0 : Int), ([(0, 1)] : List (Nat × Int)))).toNat (ev ρ ((0 : Int), ([(2, 2), (3, 1)] : List (Nat × Int))))) = (st M 58 ((ρ 0)).toNat (2 * (ρ 2) + (ρ 3))) from by rw [ei, ew]; rfl]
  have H := cr_814 M (ρ 0) (ρ 1) (ρ 2) (ρ 3) (hB _ List.mem_cons_self) (hB _ (List.mem_cons_of_mem _ List.mem_cons_self)) (hB _ (List.mem_cons_of_mem _ (List.mem_cons_of_mem _ List.mem_cons_self))) (hB _ (List.mem_cons_of_mem _ (List.mem_cons_of_mem _ (List.mem_cons_of_mem _ List.mem_cons_self)))) (cvp 331 (x' := (0 : Int)) (y' := (0 : Int)) (by show 0 + 0 = _; omega) (by show 0 + 0 = _; omega) (hm _ List.mem_cons_self)) (cvm (c := 58) (by decide) (x' := ((ρ 0))) (y' := ((ρ 3))) (by show 0 + (1 * ρ 0 + 0) = _; omega) (by show 0 + (1 * ρ 3 + 0) = _; omega) (hm _ (List.mem_cons_of_mem _ List.mem_cons_self))) (cvm (c := 59) (by decide) (x' := (1 : Int)) (y' := ((ρ 0))) (by show 1 + 0 = _; omega) (by show 0 + (1 * ρ 0 + 0) = _; omega) (hm _ (List.mem_cons_of_mem _ (List.mem_cons_of_mem _ List.mem_cons_self)))) (cvm (c := 56) (by decide) (x' := (1 : Int)) (y' := ((ρ 1))) (by show 1 + 0 = _; omega) (by show 0 + (1 * ρ 1 + 0) = _; omega) (hm _ (List.mem_cons_of_mem _ (List.mem_cons_of_mem _ (List.mem_cons_of_mem _ List.mem_cons_self))))) (cvm (c := 57) (by decide) (x' := ((ρ 1))) (y' := ((ρ 2))) (by show 0 + (1 * ρ 1 + 0) = _; omega) (by show 0 + (1 * ρ 2 + 0) = _; omega) (hm _ (List.mem_cons_of_mem _ (List.mem_cons_of_mem _ (List.mem_cons_of_mem _ (List.mem_cons_of_mem _ List.mem_cons_self)))))) hG
  obtain ⟨k0, -⟩ := H
  exact ⟨_, List.mem_cons_self, ρ, fun _ _ => rfl, (okM_c (pvp 332 (by show 0 + 0 = _; omega) (by show 0 + 0 = _; omega) k0) okM_n), okB_n, okF_n⟩
-- gm0_1
theorem cr_815 (M : pM) (s0 s1 s2 : Int) (b0 : 0 ≤ s0 ∧ s0 ≤ 2) (b1 : 0 ≤ s1 ∧ s1 ≤ 35640) (b2 : (-2147483648) ≤ s2 ∧ s2 ≤ 2147483647) (m0 : HP 321 (s0) (s1) M) (m1 : (0 ≤ (1 : Int) ∧ M 59 (1 : Int).toNat = (s0))) (m2 : HP 332 (0 : Int) (0 : Int) M) (m3 : (0 ≤ (s0) ∧ M 58 (s0).toNat = (s2))) (f0 : 0 ≤ (s1 + (-1) * s2)) (hG : gI M) : (HP 322 (0 : Int) (s1) M ∧ True) := by
  obtain ⟨j1, x1, x2, x3⟩ := Eq.mp hp_321 m0
  have hj : hrow 59 2 M 1 = s0.toNat := hrow_v (by decide) (by have h : M 59 1 = s0 := m1.2; rw [h]; omega)
  have hp : ∀ o, o < 1 → hrow 59 2 M o = hrow 59 1 M o := fun o ho => hrow_lt ho (by decide)
  have ej : j1 = s0.toNat := by omega
  subst ej
  have k1 := (Eq.mp hp_332 m2) s0.toNat (by omega)
  rw [m3.2] at k1
  have z := mx_u (hmC_0 hG) hp hj (by omega) x3 k1.symm
  rw [show max s1 s2 = s1 by omega] at z
  exact ⟨Eq.mpr hp_322 ⟨0, by omega, by omega, z⟩, trivial⟩
theorem rul_815 : Rul r_815 := by
  refine ⟨fun _ ρ M hm hB hF hG => ?_, fun gi gv hg => (by cases hg)⟩
  have H := cr_815 M (ρ 0) (ρ 1) (ρ 2) (hB _ List.mem_cons_self) (hB _ (List.mem_cons_of_mem _ List.mem_cons_self)) (hB _ (List.mem_cons_of_mem _ (List.mem_cons_of_mem _ List.mem_cons_self))) (cvp 321 (x' := ((ρ 0))) (y' := ((ρ 1))) (by show 0 + (1 * ρ 0 + 0) = _; omega) (by show 0 + (1 * ρ 1 + 0) = _; omega) (hm _ List.mem_cons_self)) (cvm (c := 59) (by decide) (x' := (1 : Int)) (y' := ((ρ 0))) (by show 1 + 0 = _; omega) (by show 0 + (1 * ρ 0 + 0) = _; omega) (hm _ (List.mem_cons_of_mem _ List.mem_cons_self))) (cvp 332 (x' := (0 : Int)) (y' := (0 : Int)) (by show 0 + 0 = _; omega) (by show 0 + 0 = _; omega) (hm _ (List.mem_cons_of_mem _ (List.mem_cons_of_mem _ List.mem_cons_self)))) (cvm (c := 58) (by decide) (x' := ((ρ 0))) (y' := ((ρ 2))) (by show 0 + (1 * ρ 0 + 0) = _; omega) (by show 0 + (1 * ρ 2 + 0) = _; omega) (hm _ (List.mem_cons_of_mem _ (List.mem_cons_of_mem _ (List.mem_cons_of_mem _ List.mem_cons_self))))) (by have h := hF _ List.mem_cons_self; have h : 0 ≤ 0 + (1 * ρ 1 + ((-1) * ρ 2 + 0)) := h; omega) hG
  obtain ⟨k0, -⟩ := H
  exact ⟨_, List.mem_cons_self, ρ, fun _ _ => rfl, (okM_c (pvp 322 (by show 0 + 0 = _; omega) (by show 0 + (1 * ρ 1 + 0) = _; omega) k0) okM_n), okB_n, okF_n⟩
-- gm1_1
theorem cr_816 (M : pM) (s0 s1 s2 : Int) (b0 : 0 ≤ s0 ∧ s0 ≤ 2) (b1 : 0 ≤ s1 ∧ s1 ≤ 35640) (b2 : (-2147483648) ≤ s2 ∧ s2 ≤ 2147483647) (m0 : HP 321 (s0) (s1) M) (m1 : (0 ≤ (1 : Int) ∧ M 59 (1 : Int).toNat = (s0))) (m2 : HP 332 (0 : Int) (0 : Int) M) (m3 : (0 ≤ (s0) ∧ M 58 (s0).toNat = (s2))) (f0 : 0 ≤ ((-1) * s1 + s2 - 1)) (hG : gI M) : (HP 322 (0 : Int) (s2) M ∧ True) := by
  obtain ⟨j1, x1, x2, x3⟩ := Eq.mp hp_321 m0
  have hj : hrow 59 2 M 1 = s0.toNat := hrow_v (by decide) (by have h : M 59 1 = s0 := m1.2; rw [h]; omega)
  have hp : ∀ o, o < 1 → hrow 59 2 M o = hrow 59 1 M o := fun o ho => hrow_lt ho (by decide)
  have ej : j1 = s0.toNat := by omega
  subst ej
  have k1 := (Eq.mp hp_332 m2) s0.toNat (by omega)
  rw [m3.2] at k1
  have z := mx_u (hmC_0 hG) hp hj (by omega) x3 k1.symm
  rw [show max s1 s2 = s2 by omega] at z
  exact ⟨Eq.mpr hp_322 ⟨0, by omega, by omega, z⟩, trivial⟩
theorem rul_816 : Rul r_816 := by
  refine ⟨fun _ ρ M hm hB hF hG => ?_, fun gi gv hg => (by cases hg)⟩
  have H := cr_816 M (ρ 0) (ρ 1) (ρ 2) (hB _ List.mem_cons_self) (hB _ (List.mem_cons_of_mem _ List.mem_cons_self)) (hB _ (List.mem_cons_of_mem _ (List.mem_cons_of_mem _ List.mem_cons_self))) (cvp 321 (x' := ((ρ 0))) (y' := ((ρ 1))) (by show 0 + (1 * ρ 0 + 0) = _; omega) (by show 0 + (1 * ρ 1 + 0) = _; omega) (hm _ List.mem_cons_self)) (cvm (c := 59) (by decide) (x' := (1 : Int)) (y' := ((ρ 0))) (by show 1 + 0 = _; omega) (by show 0 + (1 * ρ 0 + 0) = _; omega) (hm _ (List.mem_cons_of_mem _ List.mem_cons_self))) (cvp 332 (x' := (0 : Int)) (y' := (0 : Int)) (by show 0 + 0 = _; omega) (by show 0 + 0 = _; omega) (hm _ (List.mem_cons_of_mem _ (List.mem_cons_of_mem _ List.mem_cons_self)))) (cvm (c := 58) (by decide) (x' := ((ρ 0))) (y' := ((ρ 2))) (by show 0 + (1 * ρ 0 + 0) = _; omega) (by show 0 + (1 * ρ 2 + 0) = _; omega) (hm _ (List.mem_cons_of_mem _ (List.mem_cons_of_mem _ (List.mem_cons_of_mem _ List.mem_cons_self))))) (by have h := hF _ List.mem_cons_self; have h : 0 ≤ (-1) + ((-1) * ρ 1 + (1 * ρ 2 + 0)) := h; omega) hG
  obtain ⟨k0, -⟩ := H
  exact ⟨_, List.mem_cons_self, ρ, fun _ _ => rfl, (okM_c (pvp 322 (by show 0 + 0 = _; omega) (by show 0 + (1 * ρ 2 + 0) = _; omega) k0) okM_n), okB_n, okF_n⟩
-- gs1
theorem cr_817 (M : pM) (s0 s1 s2 s3 : Int) (b0 : 0 ≤ s0 ∧ s0 ≤ 2) (b1 : 0 ≤ s1 ∧ s1 ≤ 63) (b2 : 0 ≤ s2 ∧ s2 ≤ 1980) (b3 : (-2147483648) ≤ s3 ∧ s3 ≤ 2147483647) (m0 : HP 332 (0 : Int) (0 : Int) M) (m1 : (0 ≤ (s0) ∧ M 58 (s0).toNat = (s3))) (m2 : (0 ≤ (1 : Int) ∧ M 59 (1 : Int).toNat = (s0))) (m3 : (0 ≤ (1 : Int) ∧ M 56 (1 : Int).toNat = (s1))) (m4 : (0 ≤ (s1) ∧ M 57 (s1).toNat = (s2))) (hG : gI M) : (HP 331 (0 : Int) (0 : Int) (st M 58 (s0).toNat ((-2) * s2 + s3)) ∧ True) := by
  have hj : hrow 59 2 M 1 = s0.toNat := hrow_v (by decide) (by have h : M 59 1 = s0 := m2.2; rw [h]; omega)
  have hp : ∀ o, o < 1 → hrow 59 2 M o = hrow 59 1 M o := fun o ho => hrow_lt ho (by decide)
  have hz : 2 * s2 = hmC M 1 := (hmC_v (o := 1) (c := s1.toNat) (by decide) (by omega) (by have h : M 56 1 = s1 := m3.2; rw [h]; omega) m4.2).symm
  have hl := Eq.mp hp_332 m0
  refine ⟨Eq.mpr hp_331 (fun a ha => ?_), trivial⟩
  rw [hmC_st (by decide) (by decide), hrow_st (by decide)]
  exact ld_d (R := fun a => M 58 a) (R' := fun a => st M 58 (s0).toNat ((-2) * s2 + s3) 58 a) hp hj hl (fun a ha => by
      show st M 58 (s0).toNat ((-2) * s2 + s3) 58 a = if a = s0.toNat then M 58 s0.toNat - 2 * s2 else M 58 a
      rw [hst_v]
      by_cases e : a = s0.toNat
      · rw [if_pos e, if_pos e, m1.2]; omega
      · rw [if_neg e, if_neg e]) hz (by omega) a ha
theorem rul_817 : Rul r_817 := by
  refine ⟨fun h => (by cases h), fun gi gv hg ρ M hm hB hF hG => ?_⟩
  obtain ⟨g1, g2⟩ := List.cons.inj (show ([aI ((0 : Int), ([(0, 1)] : List (Nat × Int))), aI ((0 : Int), ([(2, (-2)), (3, 1)] : List (Nat × Int)))] : List av) = [.inl gi, .inl gv] from hg)
  obtain ⟨g2, -⟩ := List.cons.inj g2
  cases g1
  cases g2
  have ei : ev ρ ((0 : Int), ([(0, 1)] : List (Nat × Int))) = ((ρ 0)) := by show 0 + (1 * ρ 0 + 0) = _; omega
  have ew : ev ρ ((0 : Int), ([(2, (-2)), (3, 1)] : List (Nat × Int))) = ((-2) * (ρ 2) + (ρ 3)) := by show 0 + ((-2) * ρ 2 + (1 * ρ 3 + 0)) = _; omega
  rw [show (st M (ctj r_817) (ev ρ ((0 : Int), ([(0, 1)] : List (Nat × Int)))).toNat (ev ρ ((0 : Int), ([(2, (-2)), (3, 1)] : List (Nat × Int))))) = (st M 58 ((ρ 0)).toNat ((-2) * (ρ 2) + (ρ 3))) from by rw [ei, ew]; rfl]
  have H := cr_817 M (ρ 0) (ρ 1) (ρ 2) (ρ 3) (hB _ List.mem_cons_self) (hB _ (List.mem_cons_of_mem _ List.mem_cons_self)) (hB _ (List.mem_cons_of_mem _ (List.mem_cons_of_mem _ List.mem_cons_self))) (hB _ (List.mem_cons_of_mem _ (List.mem_cons_of_mem _ (List.mem_cons_of_mem _ List.mem_cons_self)))) (cvp 332 (x' := (0 : Int)) (y' := (0 : Int)) (by show 0 + 0 = _; omega) (by show 0 + 0 = _; omega) (hm _ List.mem_cons_self)) (cvm (c := 58) (by decide) (x' := ((ρ 0))) (y' := ((ρ 3))) (by show 0 + (1 * ρ 0 + 0) = _; omega) (by show 0 + (1 * ρ 3 + 0) = _; omega) (hm _ (List.mem_cons_of_mem _ List.mem_cons_self))) (cvm (c := 59) (by decide) (x' := (1 : Int)) (y' := ((ρ 0))) (by show 1 + 0 = _; omega) (by show 0 + (1 * ρ 0 + 0) = _; omega) (hm _ (List.mem_cons_of_mem _ (List.mem_cons_of_mem _ List.mem_cons_self)))) (cvm (c := 56) (by decide) (x' := (1 : Int)) (y' := ((ρ 1))) (by show 1 + 0 = _; omega) (by show 0 + (1 * ρ 1 + 0) = _; omega) (hm _ (List.mem_cons_of_mem _ (List.mem_cons_of_mem _ (List.mem_cons_of_mem _ List.mem_cons_self))))) (cvm (c := 57) (by decide) (x' := ((ρ 1))) (y' := ((ρ 2))) (by show 0 + (1 * ρ 1 + 0) = _; omega) (by show 0 + (1 * ρ 2 + 0) = _; omega) (hm _ (List.mem_cons_of_mem _ (List.mem_cons_of_mem _ (List.mem_cons_of_mem _ (List.mem_cons_of_mem _ List.mem_cons_self)))))) hG
  obtain ⟨k0, -⟩ := H
  exact ⟨_, List.mem_cons_self, ρ, fun _ _ => rfl, (okM_c (pvp 331 (by show 0 + 0 = _; omega) (by show 0 + 0 = _; omega) k0) okM_n), okB_n, okF_n⟩
-- gsb1
theorem cr_818 (M : pM) (s0 s1 s2 s3 : Int) (b0 : 0 ≤ s0 ∧ s0 ≤ 2) (b1 : 0 ≤ s1 ∧ s1 ≤ 63) (b2 : 0 ≤ s2 ∧ s2 ≤ 1980) (b3 : (-2147483648) ≤ s3 ∧ s3 ≤ 2147483647) (m0 : HP 332 (0 : Int) (0 : Int) M) (m1 : (0 ≤ (s0) ∧ M 58 (s0).toNat = (s3))) (m2 : (0 ≤ (1 : Int) ∧ M 59 (1 : Int).toNat = (s0))) (m3 : (0 ≤ (1 : Int) ∧ M 56 (1 : Int).toNat = (s1))) (m4 : (0 ≤ (s1) ∧ M 57 (s1).toNat = (s2))) (hG : gI M) : (0 ≤ ((-2) * s2 + s3) ∧ True) := by
  have hj : hrow 59 2 M 1 = s0.toNat := hrow_v (by decide) (by have h : M 59 1 = s0 := m2.2; rw [h]; omega)
  have hp : ∀ o, o < 1 → hrow 59 2 M o = hrow 59 1 M o := fun o ho => hrow_lt ho (by decide)
  have hz : 2 * s2 = hmC M 1 := (hmC_v (o := 1) (c := s1.toNat) (by decide) (by omega) (by have h : M 56 1 = s1 := m3.2; rw [h]; omega) m4.2).symm
  have k1 := (Eq.mp hp_332 m0) s0.toNat (by omega)
  rw [m1.2] at k1
  have k2 : hps (hmC M) (hrow 59 2 M) s0.toNat 2 = hps (hmC M) (hrow 59 2 M) s0.toNat 1 + (if hrow 59 2 M 1 = s0.toNat then hmC M 1 else 0) := rfl
  rw [hj, if_pos rfl] at k2
  have k3 := hps_0 (t := hrow 59 2 M) (a := s0.toNat) (hmC_0 hG) 1
  exact ⟨by omega, trivial⟩
theorem rul_818 : Rul r_818 := by
  refine ⟨fun _ ρ M hm hB hF hG => ?_, fun gi gv hg => (by cases hg)⟩
  have H := cr_818 M (ρ 0) (ρ 1) (ρ 2) (ρ 3) (hB _ List.mem_cons_self) (hB _ (List.mem_cons_of_mem _ List.mem_cons_self)) (hB _ (List.mem_cons_of_mem _ (List.mem_cons_of_mem _ List.mem_cons_self))) (hB _ (List.mem_cons_of_mem _ (List.mem_cons_of_mem _ (List.mem_cons_of_mem _ List.mem_cons_self)))) (cvp 332 (x' := (0 : Int)) (y' := (0 : Int)) (by show 0 + 0 = _; omega) (by show 0 + 0 = _; omega) (hm _ List.mem_cons_self)) (cvm (c := 58) (by decide) (x' := ((ρ 0))) (y' := ((ρ 3))) (by show 0 + (1 * ρ 0 + 0) = _; omega) (by show 0 + (1 * ρ 3 + 0) = _; omega) (hm _ (List.mem_cons_of_mem _ List.mem_cons_self))) (cvm (c := 59) (by decide) (x' := (1 : Int)) (y' := ((ρ 0))) (by show 1 + 0 = _; omega) (by show 0 + (1 * ρ 0 + 0) = _; omega) (hm _ (List.mem_cons_of_mem _ (List.mem_cons_of_mem _ List.mem_cons_self)))) (cvm (c := 56) (by decide) (x' := (1 : Int)) (y' := ((ρ 1))) (by show 1 + 0 = _; omega) (by show 0 + (1 * ρ 1 + 0) = _; omega) (hm _ (List.mem_cons_of_mem _ (List.mem_cons_of_mem _ (List.mem_cons_of_mem _ List.mem_cons_self))))) (cvm (c := 57) (by decide) (x' := ((ρ 1))) (y' := ((ρ 2))) (by show 0 + (1 * ρ 1 + 0) = _; omega) (by show 0 + (1 * ρ 2 + 0) = _; omega) (hm _ (List.mem_cons_of_mem _ (List.mem_cons_of_mem _ (List.mem_cons_of_mem _ (List.mem_cons_of_mem _ List.mem_cons_self)))))) hG
  obtain ⟨f0, -⟩ := H
  exact ⟨_, List.mem_cons_self, ρ, fun _ _ => rfl, okM_n, okB_n, (okF_c (by show 0 ≤ 0 + ((-2) * ρ 2 + (1 * ρ 3 + 0)); omega) okF_n)⟩
-- gn1
theorem cr_819 (M : pM) (s0 s1 s2 : Int) (b0 : 0 ≤ s0 ∧ s0 ≤ 2) (b1 : 1 ≤ s1 ∧ s1 ≤ 3) (b2 : 0 ≤ s2 ∧ s2 ≤ 9) (m0 : HP 312 (s1) (s1) M) (m1 : (0 ≤ (1 : Int) ∧ M 59 (1 : Int).toNat = (s0))) (m2 : (0 ≤ (1 : Int) ∧ M 55 (1 : Int).toNat = (s2))) (f0 : 0 ≤ ((-1) * s0 + s1 - 1)) (f1 : 0 ≤ (s2 - 2)) (hG : gI M) : (HP 311 (s0 + 1) (s1) M ∧ True) := by
  obtain ⟨j0, T0, t1, t2, t3, t4, t5, t6, t7⟩ := Eq.mp hp_312 m0
  have hj : hrow 59 2 M 1 = s0.toNat := hrow_v (by decide) (by have h : M 59 1 = s0 := m1.2; rw [h]; omega)
  have hp : ∀ o, o < 1 → hrow 59 2 M o = hrow 59 1 M o := fun o ho => hrow_lt ho (by decide)
  have en : hnC M = s2.toNat := hnC_v (by omega) (by have h : M 55 1 = s2 := m2.2; rw [h]; omega)
  have ej : j0 = T0 := by omega
  subst ej
  exact ⟨Eq.mpr hp_311 ⟨s0.toNat + 1, j0, t1, t2, by omega, by omega, by omega, fun o ho => by rw [← hp o ho]; exact t6 o (by omega), hj_up hp hj (by omega) (by rw [en]; omega) t7⟩, trivial⟩
theorem rul_819 : Rul r_819 := by
  refine ⟨fun _ ρ M hm hB hF hG => ?_, fun gi gv hg => (by cases hg)⟩
  have H := cr_819 M (ρ 0) (ρ 1) (ρ 2) (hB _ List.mem_cons_self) (hB _ (List.mem_cons_of_mem _ List.mem_cons_self)) (hB _ (List.mem_cons_of_mem _ (List.mem_cons_of_mem _ List.mem_cons_self))) (cvp 312 (x' := ((ρ 1))) (y' := ((ρ 1))) (by show 0 + (1 * ρ 1 + 0) = _; omega) (by show 0 + (1 * ρ 1 + 0) = _; omega) (hm _ List.mem_cons_self)) (cvm (c := 59) (by decide) (x' := (1 : Int)) (y' := ((ρ 0))) (by show 1 + 0 = _; omega) (by show 0 + (1 * ρ 0 + 0) = _; omega) (hm _ (List.mem_cons_of_mem _ List.mem_cons_self))) (cvm (c := 55) (by decide) (x' := (1 : Int)) (y' := ((ρ 2))) (by show 1 + 0 = _; omega) (by show 0 + (1 * ρ 2 + 0) = _; omega) (hm _ (List.mem_cons_of_mem _ (List.mem_cons_of_mem _ List.mem_cons_self)))) (by have h := hF _ List.mem_cons_self; have h : 0 ≤ (-1) + ((-1) * ρ 0 + (1 * ρ 1 + 0)) := h; omega) (by have h := hF _ (List.mem_cons_of_mem _ List.mem_cons_self); have h : 0 ≤ (-2) + (1 * ρ 2 + 0) := h; omega) hG
  obtain ⟨k0, -⟩ := H
  exact ⟨_, List.mem_cons_self, ρ, fun _ _ => rfl, (okM_c (pvp 311 (by show 1 + (1 * ρ 0 + 0) = _; omega) (by show 0 + (1 * ρ 1 + 0) = _; omega) k0) okM_n), okB_n, okF_n⟩
-- ge1
theorem cr_820 (M : pM) (s0 s1 s2 s3 s4 : Int) (b0 : 0 ≤ s0 ∧ s0 ≤ 2) (b1 : 1 ≤ s1 ∧ s1 ≤ 3) (b2 : 0 ≤ s2 ∧ s2 ≤ 35640) (b3 : 0 ≤ s3 ∧ s3 ≤ 0) (b4 : 0 ≤ s4 ∧ s4 ≤ 9) (m0 : HP 311 (s0 + 1) (s1) M) (m1 : HP 331 (0 : Int) (0 : Int) M) (m2 : (0 ≤ (s0) ∧ M 58 (s0).toNat = (s3))) (m3 : HP 321 (s0) (s2) M) (m4 : (0 ≤ (1 : Int) ∧ M 55 (1 : Int).toNat = (s4))) (f0 : 0 ≤ (s4 - 2)) (f1 : 0 ≤ ((-1) * s0 + s1 - 1)) (hG : gI M) : (HP 311 (s1) (s1) M ∧ True) := by
  obtain ⟨j0, T0, t1, t2, t3, t4, t5, t6, t7⟩ := Eq.mp hp_311 m0
  obtain ⟨j1, x1, x2, x3⟩ := Eq.mp hp_321 m3
  have en : hnC M = s4.toNat := hnC_v (by omega) (by have h : M 55 1 = s4 := m4.2; rw [h]; omega)
  have ej : j1 = s0.toNat := by omega
  subst ej
  have ek : j0 = s0.toNat + 1 := by omega
  subst ek
  have k1 := (Eq.mp hp_331 m1) s0.toNat (by omega)
  rw [m2.2] at k1
  exact ⟨Eq.mpr hp_311 ⟨T0, T0, t1, t2, Nat.le_refl _, by omega, by omega, t6, hj_sw (by rw [en]; omega) (by omega) t2 t7 x3 (by omega)⟩, trivial⟩
theorem rul_820 : Rul r_820 := by
  refine ⟨fun _ ρ M hm hB hF hG => ?_, fun gi gv hg => (by cases hg)⟩
  have H := cr_820 M (ρ 0) (ρ 1) (ρ 2) (ρ 3) (ρ 4) (hB _ List.mem_cons_self) (hB _ (List.mem_cons_of_mem _ List.mem_cons_self)) (hB _ (List.mem_cons_of_mem _ (List.mem_cons_of_mem _ List.mem_cons_self))) (hB _ (List.mem_cons_of_mem _ (List.mem_cons_of_mem _ (List.mem_cons_of_mem _ List.mem_cons_self)))) (hB _ (List.mem_cons_of_mem _ (List.mem_cons_of_mem _ (List.mem_cons_of_mem _ (List.mem_cons_of_mem _ List.mem_cons_self))))) (cvp 311 (x' := ((ρ 0) + 1)) (y' := ((ρ 1))) (by show 1 + (1 * ρ 0 + 0) = _; omega) (by show 0 + (1 * ρ 1 + 0) = _; omega) (hm _ List.mem_cons_self)) (cvp 331 (x' := (0 : Int)) (y' := (0 : Int)) (by show 0 + 0 = _; omega) (by show 0 + 0 = _; omega) (hm _ (List.mem_cons_of_mem _ List.mem_cons_self))) (cvm (c := 58) (by decide) (x' := ((ρ 0))) (y' := ((ρ 3))) (by show 0 + (1 * ρ 0 + 0) = _; omega) (by show 0 + (1 * ρ 3 + 0) = _; omega) (hm _ (List.mem_cons_of_mem _ (List.mem_cons_of_mem _ List.mem_cons_self)))) (cvp 321 (x' := ((ρ 0))) (y' := ((ρ 2))) (by show 0 + (1 * ρ 0 + 0) = _; omega) (by show 0 + (1 * ρ 2 + 0) = _; omega) (hm _ (List.mem_cons_of_mem _ (List.mem_cons_of_mem _ (List.mem_cons_of_mem _ List.mem_cons_self))))) (cvm (c := 55) (by decide) (x' := (1 : Int)) (y' := ((ρ 4))) (by show 1 + 0 = _; omega) (by show 0 + (1 * ρ 4 + 0) = _; omega) (hm _ (List.mem_cons_of_mem _ (List.mem_cons_of_mem _ (List.mem_cons_of_mem _ (List.mem_cons_of_mem _ List.mem_cons_self)))))) (by have h := hF _ List.mem_cons_self; have h : 0 ≤ (-2) + (1 * ρ 4 + 0) := h; omega) (by have h := hF _ (List.mem_cons_of_mem _ List.mem_cons_self); have h : 0 ≤ (-1) + ((-1) * ρ 0 + (1 * ρ 1 + 0)) := h; omega) hG
  obtain ⟨k0, -⟩ := H
  exact ⟨_, List.mem_cons_self, ρ, fun _ _ => rfl, (okM_c (pvp 311 (by show 0 + (1 * ρ 1 + 0) = _; omega) (by show 0 + (1 * ρ 1 + 0) = _; omega) k0) okM_n), okB_n, okF_n⟩
-- gz1
theorem cr_821 (M : pM) (s0 s1 s2 : Int) (b0 : 0 ≤ s0 ∧ s0 ≤ 2) (b1 : 0 ≤ s1 ∧ s1 ≤ 35640) (b2 : (-2147483648) ≤ s2 ∧ s2 ≤ 2147483647) (m0 : HP 321 (s0) (s1) M) (m1 : HP 331 (0 : Int) (0 : Int) M) (m2 : (0 ≤ (s0) ∧ M 58 (s0).toNat = (s2))) (f0 : 0 ≤ (s2 - 1)) (hG : gI M) : (HP 321 (s0 + 1) (s1) M ∧ True) := by
  obtain ⟨j1, x1, x2, x3⟩ := Eq.mp hp_321 m0
  have ej : j1 = s0.toNat := by omega
  subst ej
  have k1 := (Eq.mp hp_331 m1) s0.toNat (by omega)
  rw [m2.2] at k1
  exact ⟨Eq.mpr hp_321 ⟨s0.toNat + 1, by omega, by omega, mx_z x3 (by omega)⟩, trivial⟩
theorem rul_821 : Rul r_821 := by
  refine ⟨fun _ ρ M hm hB hF hG => ?_, fun gi gv hg => (by cases hg)⟩
  have H := cr_821 M (ρ 0) (ρ 1) (ρ 2) (hB _ List.mem_cons_self) (hB _ (List.mem_cons_of_mem _ List.mem_cons_self)) (hB _ (List.mem_cons_of_mem _ (List.mem_cons_of_mem _ List.mem_cons_self))) (cvp 321 (x' := ((ρ 0))) (y' := ((ρ 1))) (by show 0 + (1 * ρ 0 + 0) = _; omega) (by show 0 + (1 * ρ 1 + 0) = _; omega) (hm _ List.mem_cons_self)) (cvp 331 (x' := (0 : Int)) (y' := (0 : Int)) (by show 0 + 0 = _; omega) (by show 0 + 0 = _; omega) (hm _ (List.mem_cons_of_mem _ List.mem_cons_self))) (cvm (c := 58) (by decide) (x' := ((ρ 0))) (y' := ((ρ 2))) (by show 0 + (1 * ρ 0 + 0) = _; omega) (by show 0 + (1 * ρ 2 + 0) = _; omega) (hm _ (List.mem_cons_of_mem _ (List.mem_cons_of_mem _ List.mem_cons_self)))) (by have h := hF _ List.mem_cons_self; have h : 0 ≤ (-1) + (1 * ρ 2 + 0) := h; omega) hG
  obtain ⟨k0, -⟩ := H
  exact ⟨_, List.mem_cons_self, ρ, fun _ _ => rfl, (okM_c (pvp 321 (by show 1 + (1 * ρ 0 + 0) = _; omega) (by show 0 + (1 * ρ 1 + 0) = _; omega) k0) okM_n), okB_n, okF_n⟩
-- gf1
theorem cr_822 (M : pM) (s0 s1 : Int) (b0 : 0 ≤ s0 ∧ s0 ≤ 3) (b1 : 1 ≤ s1 ∧ s1 ≤ 3) (m0 : HP 311 (s0) (s1) M) (f0 : 0 ≤ (s0 + (-1) * s1)) (f1 : 0 ≤ ((-1) * s0 + s1)) (hG : gI M) : (HP 311 (s1) (s1) M ∧ True) := by
  obtain ⟨j0, T0, t1, t2, t3, t4, t5, t6, t7⟩ := Eq.mp hp_311 m0
  have ej : j0 = T0 := by omega
  subst ej
  exact ⟨Eq.mpr hp_311 ⟨j0, j0, t1, t2, Nat.le_refl _, by omega, by omega, t6, t7⟩, trivial⟩
theorem rul_822 : Rul r_822 := by
  refine ⟨fun _ ρ M hm hB hF hG => ?_, fun gi gv hg => (by cases hg)⟩
  have H := cr_822 M (ρ 0) (ρ 1) (hB _ List.mem_cons_self) (hB _ (List.mem_cons_of_mem _ List.mem_cons_self)) (cvp 311 (x' := ((ρ 0))) (y' := ((ρ 1))) (by show 0 + (1 * ρ 0 + 0) = _; omega) (by show 0 + (1 * ρ 1 + 0) = _; omega) (hm _ List.mem_cons_self)) (by have h := hF _ List.mem_cons_self; have h : 0 ≤ 0 + (1 * ρ 0 + ((-1) * ρ 1 + 0)) := h; omega) (by have h := hF _ (List.mem_cons_of_mem _ List.mem_cons_self); have h : 0 ≤ 0 + ((-1) * ρ 0 + (1 * ρ 1 + 0)) := h; omega) hG
  obtain ⟨k0, -⟩ := H
  exact ⟨_, List.mem_cons_self, ρ, fun _ _ => rfl, (okM_c (pvp 311 (by show 0 + (1 * ρ 1 + 0) = _; omega) (by show 0 + (1 * ρ 1 + 0) = _; omega) k0) okM_n), okB_n, okF_n⟩
-- gb1
theorem cr_823 (M : pM) (s0 s1 s2 : Int) (b0 : 0 ≤ s0 ∧ s0 ≤ 35640) (b1 : 0 ≤ s1 ∧ s1 ≤ 3) (b2 : 0 ≤ s2 ∧ s2 ≤ 9) (m0 : HP 321 (s1) (s0) M) (m1 : HP 342 (s2) (0 : Int) M) (f0 : 0 ≤ (s2 - 1)) (hG : gI M) : (0 ≤ ((-1) * s0 + 3960) ∧ True) := by
  obtain ⟨j1, x1, x2, x3⟩ := Eq.mp hp_321 m0
  obtain ⟨h1, h2, h3⟩ := Eq.mp hp_342 m1
  obtain ⟨a, a1, a2⟩ := x3.2.1
  have k := hps_b (m := hmC M) (t := (hrow 59 1 M)) (a := a) (K := 3960) (by decide) (g := 1) (fun o ho => h3 o (by omega))
  rw [a2] at k
  exact ⟨by omega, trivial⟩
theorem rul_823 : Rul r_823 := by
  refine ⟨fun _ ρ M hm hB hF hG => ?_, fun gi gv hg => (by cases hg)⟩
  have H := cr_823 M (ρ 0) (ρ 1) (ρ 2) (hB _ List.mem_cons_self) (hB _ (List.mem_cons_of_mem _ List.mem_cons_self)) (hB _ (List.mem_cons_of_mem _ (List.mem_cons_of_mem _ List.mem_cons_self))) (cvp 321 (x' := ((ρ 1))) (y' := ((ρ 0))) (by show 0 + (1 * ρ 1 + 0) = _; omega) (by show 0 + (1 * ρ 0 + 0) = _; omega) (hm _ List.mem_cons_self)) (cvp 342 (x' := ((ρ 2))) (y' := (0 : Int)) (by show 0 + (1 * ρ 2 + 0) = _; omega) (by show 0 + 0 = _; omega) (hm _ (List.mem_cons_of_mem _ List.mem_cons_self))) (by have h := hF _ List.mem_cons_self; have h : 0 ≤ (-1) + (1 * ρ 2 + 0) := h; omega) hG
  obtain ⟨f0, -⟩ := H
  exact ⟨_, List.mem_cons_self, ρ, fun _ _ => rfl, okM_n, okB_n, (okF_c (by show 0 ≤ 3960 + ((-1) * ρ 0 + 0); omega) okF_n)⟩
-- gpr2
theorem cr_824 (M : pM) (s0 s1 s2 s3 : Int) (b0 : 1 ≤ s0 ∧ s0 ≤ 3) (b1 : 0 ≤ s1 ∧ s1 ≤ 35640) (b2 : 0 ≤ s2 ∧ s2 ≤ 9) (b3 : 0 ≤ s3 ∧ s3 ≤ 1000000) (m0 : HP 312 (0 : Int) (s0) M) (m1 : HP 322 (0 : Int) (s1) M) (m2 : (0 ≤ (1 : Int) ∧ M 55 (1 : Int).toNat = (s2))) (m3 : (0 ≤ (6 : Int) ∧ M 55 (6 : Int).toNat = (s3))) (f0 : 0 ≤ (s1 + (-1) * s3)) (f1 : 0 ≤ (s2 - 2)) (hG : gI M) : (HP 312 (s0) (s0) M ∧ True) := by
  obtain ⟨j0, T0, t1, t2, t3, t4, t5, t6, t7⟩ := Eq.mp hp_312 m0
  obtain ⟨j1, x1, x2, x3⟩ := Eq.mp hp_322 m1
  have en : hnC M = s2.toNat := hnC_v (by omega) (by have h : M 55 1 = s2 := m2.2; rw [h]; omega)
  have eb : M 55 6 = s3 := m3.2
  have ej : j0 = 0 := by omega
  subst ej
  exact ⟨Eq.mpr hp_312 ⟨T0, T0, t1, t2, Nat.le_refl _, by omega, by omega, t6, hj_pr (hmC_0 hG) (by rw [en]; omega) t7 x3 (by rw [eb]; omega)⟩, trivial⟩
theorem rul_824 : Rul r_824 := by
  refine ⟨fun _ ρ M hm hB hF hG => ?_, fun gi gv hg => (by cases hg)⟩
  have H := cr_824 M (ρ 0) (ρ 1) (ρ 2) (ρ 3) (hB _ List.mem_cons_self) (hB _ (List.mem_cons_of_mem _ List.mem_cons_self)) (hB _ (List.mem_cons_of_mem _ (List.mem_cons_of_mem _ List.mem_cons_self))) (hB _ (List.mem_cons_of_mem _ (List.mem_cons_of_mem _ (List.mem_cons_of_mem _ List.mem_cons_self)))) (cvp 312 (x' := (0 : Int)) (y' := ((ρ 0))) (by show 0 + 0 = _; omega) (by show 0 + (1 * ρ 0 + 0) = _; omega) (hm _ List.mem_cons_self)) (cvp 322 (x' := (0 : Int)) (y' := ((ρ 1))) (by show 0 + 0 = _; omega) (by show 0 + (1 * ρ 1 + 0) = _; omega) (hm _ (List.mem_cons_of_mem _ List.mem_cons_self))) (cvm (c := 55) (by decide) (x' := (1 : Int)) (y' := ((ρ 2))) (by show 1 + 0 = _; omega) (by show 0 + (1 * ρ 2 + 0) = _; omega) (hm _ (List.mem_cons_of_mem _ (List.mem_cons_of_mem _ List.mem_cons_self)))) (cvm (c := 55) (by decide) (x' := (6 : Int)) (y' := ((ρ 3))) (by show 6 + 0 = _; omega) (by show 0 + (1 * ρ 3 + 0) = _; omega) (hm _ (List.mem_cons_of_mem _ (List.mem_cons_of_mem _ (List.mem_cons_of_mem _ List.mem_cons_self))))) (by have h := hF _ List.mem_cons_self; have h : 0 ≤ 0 + (1 * ρ 1 + ((-1) * ρ 3 + 0)) := h; omega) (by have h := hF _ (List.mem_cons_of_mem _ List.mem_cons_self); have h : 0 ≤ (-2) + (1 * ρ 2 + 0) := h; omega) hG
  obtain ⟨k0, -⟩ := H
  exact ⟨_, List.mem_cons_self, ρ, fun _ _ => rfl, (okM_c (pvp 312 (by show 0 + (1 * ρ 0 + 0) = _; omega) (by show 0 + (1 * ρ 0 + 0) = _; omega) k0) okM_n), okB_n, okF_n⟩
-- glf2
theorem cr_825 (M : pM) (s0 s1 s2 s3 : Int) (b0 : 1 ≤ s0 ∧ s0 ≤ 3) (b1 : 0 ≤ s1 ∧ s1 ≤ 35640) (b2 : 0 ≤ s2 ∧ s2 ≤ 9) (b3 : 0 ≤ s3 ∧ s3 ≤ 1000000) (m0 : HP 312 (0 : Int) (s0) M) (m1 : HP 322 (0 : Int) (s1) M) (m2 : (0 ≤ (1 : Int) ∧ M 55 (1 : Int).toNat = (s2))) (m3 : (0 ≤ (6 : Int) ∧ M 55 (6 : Int).toNat = (s3))) (f0 : 0 ≤ ((-1) * s1 + s3 - 1)) (f1 : 0 ≤ ((-1) * s2 + 2)) (f2 : 0 ≤ (s2 - 2)) (hG : gI M) : (HP 340 (s1) (s0) M ∧ True) := by
  obtain ⟨j0, T0, t1, t2, t3, t4, t5, t6, t7⟩ := Eq.mp hp_312 m0
  obtain ⟨j1, x1, x2, x3⟩ := Eq.mp hp_322 m1
  have en : hnC M = s2.toNat := hnC_v (by omega) (by have h : M 55 1 = s2 := m2.2; rw [h]; omega)
  have eb : M 55 6 = s3 := m3.2
  have ej : j0 = 0 := by omega
  subst ej
  have en2 : hnC M = 2 := by rw [en]; omega
  rw [en2] at t7
  obtain ⟨k1, k2⟩ := hj_lf t7 x3 (by rw [eb]; omega)
  exact ⟨Eq.mpr hp_340 ⟨T0, t1, t2, by omega, by rw [en2]; exact fun o ho => by rw [hrow_lt ho (by decide)]; exact t6 o ho, by rw [en2]; exact (hco_c (fun o ho => hrow_lt ho (by decide))).trans k1, by rw [en2]; exact fun t ht hl => k2 t ht (hlx_c hl (fun o ho => hrow_lt ho (by decide)))⟩, trivial⟩
theorem rul_825 : Rul r_825 := by
  refine ⟨fun _ ρ M hm hB hF hG => ?_, fun gi gv hg => (by cases hg)⟩
  have H := cr_825 M (ρ 0) (ρ 1) (ρ 2) (ρ 3) (hB _ List.mem_cons_self) (hB _ (List.mem_cons_of_mem _ List.mem_cons_self)) (hB _ (List.mem_cons_of_mem _ (List.mem_cons_of_mem _ List.mem_cons_self))) (hB _ (List.mem_cons_of_mem _ (List.mem_cons_of_mem _ (List.mem_cons_of_mem _ List.mem_cons_self)))) (cvp 312 (x' := (0 : Int)) (y' := ((ρ 0))) (by show 0 + 0 = _; omega) (by show 0 + (1 * ρ 0 + 0) = _; omega) (hm _ List.mem_cons_self)) (cvp 322 (x' := (0 : Int)) (y' := ((ρ 1))) (by show 0 + 0 = _; omega) (by show 0 + (1 * ρ 1 + 0) = _; omega) (hm _ (List.mem_cons_of_mem _ List.mem_cons_self))) (cvm (c := 55) (by decide) (x' := (1 : Int)) (y' := ((ρ 2))) (by show 1 + 0 = _; omega) (by show 0 + (1 * ρ 2 + 0) = _; omega) (hm _ (List.mem_cons_of_mem _ (List.mem_cons_of_mem _ List.mem_cons_self)))) (cvm (c := 55) (by decide) (x' := (6 : Int)) (y' := ((ρ 3))) (by show 6 + 0 = _; omega) (by show 0 + (1 * ρ 3 + 0) = _; omega) (hm _ (List.mem_cons_of_mem _ (List.mem_cons_of_mem _ (List.mem_cons_of_mem _ List.mem_cons_self))))) (by have h := hF _ List.mem_cons_self; have h : 0 ≤ (-1) + ((-1) * ρ 1 + (1 * ρ 3 + 0)) := h; omega) (by have h := hF _ (List.mem_cons_of_mem _ List.mem_cons_self); have h : 0 ≤ 2 + ((-1) * ρ 2 + 0) := h; omega) (by have h := hF _ (List.mem_cons_of_mem _ (List.mem_cons_of_mem _ List.mem_cons_self)); have h : 0 ≤ (-2) + (1 * ρ 2 + 0) := h; omega) hG
  obtain ⟨k0, -⟩ := H
  exact ⟨_, List.mem_cons_self, ρ, fun _ _ => rfl, (okM_c (pvp 340 (by show 0 + (1 * ρ 1 + 0) = _; omega) (by show 0 + (1 * ρ 0 + 0) = _; omega) k0) okM_n), okB_n, okF_n⟩
-- glx2
theorem cr_826 (M : pM) (s0 s1 s2 s3 : Int) (b0 : 1 ≤ s0 ∧ s0 ≤ 3) (b1 : 0 ≤ s1 ∧ s1 ≤ 35640) (b2 : 0 ≤ s2 ∧ s2 ≤ 9) (b3 : 0 ≤ s3 ∧ s3 ≤ 1000000) (m0 : HP 340 (s1) (s0) M) (m1 : HP 341 (s2) (0 : Int) M) (m2 : (0 ≤ (1 : Int) ∧ M 55 (1 : Int).toNat = (s2))) (m3 : (0 ≤ (6 : Int) ∧ M 55 (6 : Int).toNat = (s3))) (f0 : 0 ≤ ((-1) * s2 + 2)) (f1 : 0 ≤ (s2 - 2)) (f2 : 0 ≤ (s1 + (-1) * s3)) (f3 : 0 ≤ ((-1) * s1 + s3)) (hG : gI M) : (HP 312 (s0) (s0) M ∧ True) := by
  obtain ⟨T0, q1, q2, q3, q4, q5, q6⟩ := Eq.mp hp_340 m0
  have c2 := Eq.mp hp_341 m1
  have en : hnC M = s2.toNat := hnC_v (by omega) (by have h : M 55 1 = s2 := m2.2; rw [h]; omega)
  have eb : M 55 6 = s3 := m3.2
  have en2 : hnC M = 2 := by rw [en]; omega
  rw [en2] at q4 q5 q6
  exact ⟨Eq.mpr hp_312 ⟨T0, T0, q1, q2, Nat.le_refl _, by omega, by omega, fun o ho => by rw [← hrow_lt (k := 9) ho (by decide)]; exact q4 o ho, by
      rw [en2]
      exact hj_le (q := hrow 59 9 M) (fun o ho => hrow_lt ho (by decide)) (fun o ho => hrow_e (by omega) (c2 o (by omega) (by omega))) q4 (q5.trans (by rw [eb]; omega)) (fun t ht hl => by have := q6 t ht hl; rw [eb]; omega)⟩, trivial⟩
theorem rul_826 : Rul r_826 := by
  refine ⟨fun _ ρ M hm hB hF hG => ?_, fun gi gv hg => (by cases hg)⟩
  have H := cr_826 M (ρ 0) (ρ 1) (ρ 2) (ρ 3) (hB _ List.mem_cons_self) (hB _ (List.mem_cons_of_mem _ List.mem_cons_self)) (hB _ (List.mem_cons_of_mem _ (List.mem_cons_of_mem _ List.mem_cons_self))) (hB _ (List.mem_cons_of_mem _ (List.mem_cons_of_mem _ (List.mem_cons_of_mem _ List.mem_cons_self)))) (cvp 340 (x' := ((ρ 1))) (y' := ((ρ 0))) (by show 0 + (1 * ρ 1 + 0) = _; omega) (by show 0 + (1 * ρ 0 + 0) = _; omega) (hm _ List.mem_cons_self)) (cvp 341 (x' := ((ρ 2))) (y' := (0 : Int)) (by show 0 + (1 * ρ 2 + 0) = _; omega) (by show 0 + 0 = _; omega) (hm _ (List.mem_cons_of_mem _ List.mem_cons_self))) (cvm (c := 55) (by decide) (x' := (1 : Int)) (y' := ((ρ 2))) (by show 1 + 0 = _; omega) (by show 0 + (1 * ρ 2 + 0) = _; omega) (hm _ (List.mem_cons_of_mem _ (List.mem_cons_of_mem _ List.mem_cons_self)))) (cvm (c := 55) (by decide) (x' := (6 : Int)) (y' := ((ρ 3))) (by show 6 + 0 = _; omega) (by show 0 + (1 * ρ 3 + 0) = _; omega) (hm _ (List.mem_cons_of_mem _ (List.mem_cons_of_mem _ (List.mem_cons_of_mem _ List.mem_cons_self))))) (by have h := hF _ List.mem_cons_self; have h : 0 ≤ 2 + ((-1) * ρ 2 + 0) := h; omega) (by have h := hF _ (List.mem_cons_of_mem _ List.mem_cons_self); have h : 0 ≤ (-2) + (1 * ρ 2 + 0) := h; omega) (by have h := hF _ (List.mem_cons_of_mem _ (List.mem_cons_of_mem _ List.mem_cons_self)); have h : 0 ≤ 0 + (1 * ρ 1 + ((-1) * ρ 3 + 0)) := h; omega) (by have h := hF _ (List.mem_cons_of_mem _ (List.mem_cons_of_mem _ (List.mem_cons_of_mem _ List.mem_cons_self))); have h : 0 ≤ 0 + ((-1) * ρ 1 + (1 * ρ 3 + 0)) := h; omega) hG
  obtain ⟨k0, -⟩ := H
  exact ⟨_, List.mem_cons_self, ρ, fun _ _ => rfl, (okM_c (pvp 312 (by show 0 + (1 * ρ 0 + 0) = _; omega) (by show 0 + (1 * ρ 0 + 0) = _; omega) k0) okM_n), okB_n, okF_n⟩
-- gh2
theorem cr_827 (M : pM) (s0 s1 s2 : Int) (b0 : 0 ≤ s0 ∧ s0 ≤ 2) (b1 : 1 ≤ s1 ∧ s1 ≤ 3) (b2 : 0 ≤ s2 ∧ s2 ≤ 9) (m0 : HP 312 (s0) (s1) M) (m1 : (0 ≤ (2 : Int) ∧ M 59 (2 : Int).toNat = (s0))) (m2 : (0 ≤ (1 : Int) ∧ M 55 (1 : Int).toNat = (s2))) (f0 : 0 ≤ ((-1) * s0 + s1 - 1)) (f1 : 0 ≤ (s2 - 3)) (hG : gI M) : (HP 313 (0 : Int) (s1) M ∧ True) := by
  obtain ⟨j0, T0, t1, t2, t3, t4, t5, t6, t7⟩ := Eq.mp hp_312 m0
  have hj : hrow 59 3 M 2 = s0.toNat := hrow_v (by decide) (by have h : M 59 2 = s0 := m1.2; rw [h]; omega)
  have hp : ∀ o, o < 2 → hrow 59 3 M o = hrow 59 2 M o := fun o ho => hrow_lt ho (by decide)
  have en : hnC M = s2.toNat := hnC_v (by omega) (by have h : M 55 1 = s2 := m2.2; rw [h]; omega)
  have ej : j0 = s0.toNat := by omega
  subst ej
  exact ⟨Eq.mpr hp_313 ⟨0, T0, t1, t2, by omega, by omega, by omega, fun o ho => by
      by_cases e : o = 2
      · rw [e, hj]; omega
      · rw [hp o (by omega)]; exact t6 o (by omega), hj_dn t1 hp hj (by omega) t7⟩, trivial⟩
theorem rul_827 : Rul r_827 := by
  refine ⟨fun _ ρ M hm hB hF hG => ?_, fun gi gv hg => (by cases hg)⟩
  have H := cr_827 M (ρ 0) (ρ 1) (ρ 2) (hB _ List.mem_cons_self) (hB _ (List.mem_cons_of_mem _ List.mem_cons_self)) (hB _ (List.mem_cons_of_mem _ (List.mem_cons_of_mem _ List.mem_cons_self))) (cvp 312 (x' := ((ρ 0))) (y' := ((ρ 1))) (by show 0 + (1 * ρ 0 + 0) = _; omega) (by show 0 + (1 * ρ 1 + 0) = _; omega) (hm _ List.mem_cons_self)) (cvm (c := 59) (by decide) (x' := (2 : Int)) (y' := ((ρ 0))) (by show 2 + 0 = _; omega) (by show 0 + (1 * ρ 0 + 0) = _; omega) (hm _ (List.mem_cons_of_mem _ List.mem_cons_self))) (cvm (c := 55) (by decide) (x' := (1 : Int)) (y' := ((ρ 2))) (by show 1 + 0 = _; omega) (by show 0 + (1 * ρ 2 + 0) = _; omega) (hm _ (List.mem_cons_of_mem _ (List.mem_cons_of_mem _ List.mem_cons_self)))) (by have h := hF _ List.mem_cons_self; have h : 0 ≤ (-1) + ((-1) * ρ 0 + (1 * ρ 1 + 0)) := h; omega) (by have h := hF _ (List.mem_cons_of_mem _ List.mem_cons_self); have h : 0 ≤ (-3) + (1 * ρ 2 + 0) := h; omega) hG
  obtain ⟨k0, -⟩ := H
  exact ⟨_, List.mem_cons_self, ρ, fun _ _ => rfl, (okM_c (pvp 313 (by show 0 + 0 = _; omega) (by show 0 + (1 * ρ 1 + 0) = _; omega) k0) okM_n), okB_n, okF_n⟩
-- gld2
theorem cr_828 (M : pM) (s0 s1 s2 s3 : Int) (b0 : 0 ≤ s0 ∧ s0 ≤ 2) (b1 : (-2147483648) ≤ s1 ∧ s1 ≤ 2147483647) (b2 : 0 ≤ s2 ∧ s2 ≤ 3) (b3 : 0 ≤ s3 ∧ s3 ≤ 35640) (m0 : HP 332 (0 : Int) (0 : Int) M) (m1 : (0 ≤ (s0) ∧ M 58 (s0).toNat = (s1))) (m2 : HP 322 (s2) (s3) M) (hG : gI M) : (0 ≤ (s1) ∧ 0 ≤ ((-1) * s1 + s3) ∧ True) := by
  obtain ⟨j1, x1, x2, x3⟩ := Eq.mp hp_322 m2
  have k1 := (Eq.mp hp_332 m0) s0.toNat (by omega)
  rw [m1.2] at k1
  have k2 := hps_0 (t := (hrow 59 2 M)) (a := s0.toNat) (hmC_0 hG) 2
  have k3 := x3.1 s0.toNat (by omega)
  exact ⟨by omega, by omega, trivial⟩
theorem rul_828 : Rul r_828 := by
  refine ⟨fun _ ρ M hm hB hF hG => ?_, fun gi gv hg => (by cases hg)⟩
  have H := cr_828 M (ρ 0) (ρ 1) (ρ 2) (ρ 3) (hB _ List.mem_cons_self) (hB _ (List.mem_cons_of_mem _ List.mem_cons_self)) (hB _ (List.mem_cons_of_mem _ (List.mem_cons_of_mem _ List.mem_cons_self))) (hB _ (List.mem_cons_of_mem _ (List.mem_cons_of_mem _ (List.mem_cons_of_mem _ List.mem_cons_self)))) (cvp 332 (x' := (0 : Int)) (y' := (0 : Int)) (by show 0 + 0 = _; omega) (by show 0 + 0 = _; omega) (hm _ List.mem_cons_self)) (cvm (c := 58) (by decide) (x' := ((ρ 0))) (y' := ((ρ 1))) (by show 0 + (1 * ρ 0 + 0) = _; omega) (by show 0 + (1 * ρ 1 + 0) = _; omega) (hm _ (List.mem_cons_of_mem _ List.mem_cons_self))) (cvp 322 (x' := ((ρ 2))) (y' := ((ρ 3))) (by show 0 + (1 * ρ 2 + 0) = _; omega) (by show 0 + (1 * ρ 3 + 0) = _; omega) (hm _ (List.mem_cons_of_mem _ (List.mem_cons_of_mem _ List.mem_cons_self)))) hG
  obtain ⟨f0, f1, -⟩ := H
  exact ⟨_, List.mem_cons_self, ρ, fun _ _ => rfl, okM_n, okB_n, (okF_c (by show 0 ≤ 0 + (1 * ρ 1 + 0); omega) (okF_c (by show 0 ≤ 0 + ((-1) * ρ 1 + (1 * ρ 3 + 0)); omega) okF_n))⟩
-- gl2
theorem cr_829 (M : pM) (s0 s1 s2 s3 : Int) (b0 : 0 ≤ s0 ∧ s0 ≤ 2) (b1 : 0 ≤ s1 ∧ s1 ≤ 63) (b2 : 0 ≤ s2 ∧ s2 ≤ 1980) (b3 : 0 ≤ s3 ∧ s3 ≤ 35640) (m0 : HP 332 (0 : Int) (0 : Int) M) (m1 : (0 ≤ (s0) ∧ M 58 (s0).toNat = (s3))) (m2 : (0 ≤ (2 : Int) ∧ M 59 (2 : Int).toNat = (s0))) (m3 : (0 ≤ (2 : Int) ∧ M 56 (2 : Int).toNat = (s1))) (m4 : (0 ≤ (s1) ∧ M 57 (s1).toNat = (s2))) (hG : gI M) : (HP 333 (0 : Int) (0 : Int) (st M 58 (s0).toNat (2 * s2 + s3)) ∧ True) := by
  have hj : hrow 59 3 M 2 = s0.toNat := hrow_v (by decide) (by have h : M 59 2 = s0 := m2.2; rw [h]; omega)
  have hp : ∀ o, o < 2 → hrow 59 3 M o = hrow 59 2 M o := fun o ho => hrow_lt ho (by decide)
  have hz : 2 * s2 = hmC M 2 := (hmC_v (o := 2) (c := s1.toNat) (by decide) (by omega) (by have h : M 56 2 = s1 := m3.2; rw [h]; omega) m4.2).symm
  have hl := Eq.mp hp_332 m0
  refine ⟨Eq.mpr hp_333 (fun a ha => ?_), trivial⟩
  rw [hmC_st (by decide) (by decide), hrow_st (by decide)]
  exact ld_u (R := fun a => M 58 a) (R' := fun a => st M 58 (s0).toNat (2 * s2 + s3) 58 a) hp hj hl (fun a ha => by
      show st M 58 (s0).toNat (2 * s2 + s3) 58 a = if a = s0.toNat then M 58 s0.toNat + 2 * s2 else M 58 a
      rw [hst_v]
      by_cases e : a = s0.toNat
      · rw [if_pos e, if_pos e, m1.2]; omega
      · rw [if_neg e, if_neg e]) hz (by omega) a ha
theorem rul_829 : Rul r_829 := by
  refine ⟨fun h => (by cases h), fun gi gv hg ρ M hm hB hF hG => ?_⟩
  obtain ⟨g1, g2⟩ := List.cons.inj (show ([aI ((0 : Int), ([(0, 1)] : List (Nat × Int))), aI ((0 : Int), ([(2, 2), (3, 1)] : List (Nat × Int)))] : List av) = [.inl gi, .inl gv] from hg)
  obtain ⟨g2, -⟩ := List.cons.inj g2
  cases g1
  cases g2
  have ei : ev ρ ((0 : Int), ([(0, 1)] : List (Nat × Int))) = ((ρ 0)) := by show 0 + (1 * ρ 0 + 0) = _; omega
  have ew : ev ρ ((0 : Int), ([(2, 2), (3, 1)] : List (Nat × Int))) = (2 * (ρ 2) + (ρ 3)) := by show 0 + (2 * ρ 2 + (1 * ρ 3 + 0)) = _; omega
  rw [show (st M (ctj r_829) (ev ρ ((0 : Int), ([(0, 1)] : List (Nat × Int)))).toNat (ev ρ ((0 : Int), ([(2, 2), (3, 1)] : List (Nat × Int))))) = (st M 58 ((ρ 0)).toNat (2 * (ρ 2) + (ρ 3))) from by rw [ei, ew]; rfl]
  have H := cr_829 M (ρ 0) (ρ 1) (ρ 2) (ρ 3) (hB _ List.mem_cons_self) (hB _ (List.mem_cons_of_mem _ List.mem_cons_self)) (hB _ (List.mem_cons_of_mem _ (List.mem_cons_of_mem _ List.mem_cons_self))) (hB _ (List.mem_cons_of_mem _ (List.mem_cons_of_mem _ (List.mem_cons_of_mem _ List.mem_cons_self)))) (cvp 332 (x' := (0 : Int)) (y' := (0 : Int)) (by show 0 + 0 = _; omega) (by show 0 + 0 = _; omega) (hm _ List.mem_cons_self)) (cvm (c := 58) (by decide) (x' := ((ρ 0))) (y' := ((ρ 3))) (by show 0 + (1 * ρ 0 + 0) = _; omega) (by show 0 + (1 * ρ 3 + 0) = _; omega) (hm _ (List.mem_cons_of_mem _ List.mem_cons_self))) (cvm (c := 59) (by decide) (x' := (2 : Int)) (y' := ((ρ 0))) (by show 2 + 0 = _; omega) (by show 0 + (1 * ρ 0 + 0) = _; omega) (hm _ (List.mem_cons_of_mem _ (List.mem_cons_of_mem _ List.mem_cons_self)))) (cvm (c := 56) (by decide) (x' := (2 : Int)) (y' := ((ρ 1))) (by show 2 + 0 = _; omega) (by show 0 + (1 * ρ 1 + 0) = _; omega) (hm _ (List.mem_cons_of_mem _ (List.mem_cons_of_mem _ (List.mem_cons_of_mem _ List.mem_cons_self))))) (cvm (c := 57) (by decide) (x' := ((ρ 1))) (y' := ((ρ 2))) (by show 0 + (1 * ρ 1 + 0) = _; omega) (by show 0 + (1 * ρ 2 + 0) = _; omega) (hm _ (List.mem_cons_of_mem _ (List.mem_cons_of_mem _ (List.mem_cons_of_mem _ (List.mem_cons_of_mem _ List.mem_cons_self)))))) hG
  obtain ⟨k0, -⟩ := H
  exact ⟨_, List.mem_cons_self, ρ, fun _ _ => rfl, (okM_c (pvp 333 (by show 0 + 0 = _; omega) (by show 0 + 0 = _; omega) k0) okM_n), okB_n, okF_n⟩
-- gm0_2
theorem cr_830 (M : pM) (s0 s1 s2 : Int) (b0 : 0 ≤ s0 ∧ s0 ≤ 2) (b1 : 0 ≤ s1 ∧ s1 ≤ 35640) (b2 : (-2147483648) ≤ s2 ∧ s2 ≤ 2147483647) (m0 : HP 322 (s0) (s1) M) (m1 : (0 ≤ (2 : Int) ∧ M 59 (2 : Int).toNat = (s0))) (m2 : HP 333 (0 : Int) (0 : Int) M) (m3 : (0 ≤ (s0) ∧ M 58 (s0).toNat = (s2))) (f0 : 0 ≤ (s1 + (-1) * s2)) (hG : gI M) : (HP 323 (0 : Int) (s1) M ∧ True) := by
  obtain ⟨j1, x1, x2, x3⟩ := Eq.mp hp_322 m0
  have hj : hrow 59 3 M 2 = s0.toNat := hrow_v (by decide) (by have h : M 59 2 = s0 := m1.2; rw [h]; omega)
  have hp : ∀ o, o < 2 → hrow 59 3 M o = hrow 59 2 M o := fun o ho => hrow_lt ho (by decide)
  have ej : j1 = s0.toNat := by omega
  subst ej
  have k1 := (Eq.mp hp_333 m2) s0.toNat (by omega)
  rw [m3.2] at k1
  have z := mx_u (hmC_0 hG) hp hj (by omega) x3 k1.symm
  rw [show max s1 s2 = s1 by omega] at z
  exact ⟨Eq.mpr hp_323 ⟨0, by omega, by omega, z⟩, trivial⟩
theorem rul_830 : Rul r_830 := by
  refine ⟨fun _ ρ M hm hB hF hG => ?_, fun gi gv hg => (by cases hg)⟩
  have H := cr_830 M (ρ 0) (ρ 1) (ρ 2) (hB _ List.mem_cons_self) (hB _ (List.mem_cons_of_mem _ List.mem_cons_self)) (hB _ (List.mem_cons_of_mem _ (List.mem_cons_of_mem _ List.mem_cons_self))) (cvp 322 (x' := ((ρ 0))) (y' := ((ρ 1))) (by show 0 + (1 * ρ 0 + 0) = _; omega) (by show 0 + (1 * ρ 1 + 0) = _; omega) (hm _ List.mem_cons_self)) (cvm (c := 59) (by decide) (x' := (2 : Int)) (y' := ((ρ 0))) (by show 2 + 0 = _; omega) (by show 0 + (1 * ρ 0 + 0) = _; omega) (hm _ (List.mem_cons_of_mem _ List.mem_cons_self))) (cvp 333 (x' := (0 : Int)) (y' := (0 : Int)) (by show 0 + 0 = _; omega) (by show 0 + 0 = _; omega) (hm _ (List.mem_cons_of_mem _ (List.mem_cons_of_mem _ List.mem_cons_self)))) (cvm (c := 58) (by decide) (x' := ((ρ 0))) (y' := ((ρ 2))) (by show 0 + (1 * ρ 0 + 0) = _; omega) (by show 0 + (1 * ρ 2 + 0) = _; omega) (hm _ (List.mem_cons_of_mem _ (List.mem_cons_of_mem _ (List.mem_cons_of_mem _ List.mem_cons_self))))) (by have h := hF _ List.mem_cons_self; have h : 0 ≤ 0 + (1 * ρ 1 + ((-1) * ρ 2 + 0)) := h; omega) hG
  obtain ⟨k0, -⟩ := H
  exact ⟨_, List.mem_cons_self, ρ, fun _ _ => rfl, (okM_c (pvp 323 (by show 0 + 0 = _; omega) (by show 0 + (1 * ρ 1 + 0) = _; omega) k0) okM_n), okB_n, okF_n⟩
-- gm1_2
theorem cr_831 (M : pM) (s0 s1 s2 : Int) (b0 : 0 ≤ s0 ∧ s0 ≤ 2) (b1 : 0 ≤ s1 ∧ s1 ≤ 35640) (b2 : (-2147483648) ≤ s2 ∧ s2 ≤ 2147483647) (m0 : HP 322 (s0) (s1) M) (m1 : (0 ≤ (2 : Int) ∧ M 59 (2 : Int).toNat = (s0))) (m2 : HP 333 (0 : Int) (0 : Int) M) (m3 : (0 ≤ (s0) ∧ M 58 (s0).toNat = (s2))) (f0 : 0 ≤ ((-1) * s1 + s2 - 1)) (hG : gI M) : (HP 323 (0 : Int) (s2) M ∧ True) := by
  obtain ⟨j1, x1, x2, x3⟩ := Eq.mp hp_322 m0
  have hj : hrow 59 3 M 2 = s0.toNat := hrow_v (by decide) (by have h : M 59 2 = s0 := m1.2; rw [h]; omega)
  have hp : ∀ o, o < 2 → hrow 59 3 M o = hrow 59 2 M o := fun o ho => hrow_lt ho (by decide)
  have ej : j1 = s0.toNat := by omega
  subst ej
  have k1 := (Eq.mp hp_333 m2) s0.toNat (by omega)
  rw [m3.2] at k1
  have z := mx_u (hmC_0 hG) hp hj (by omega) x3 k1.symm
  rw [show max s1 s2 = s2 by omega] at z
  exact ⟨Eq.mpr hp_323 ⟨0, by omega, by omega, z⟩, trivial⟩
theorem rul_831 : Rul r_831 := by
  refine ⟨fun _ ρ M hm hB hF hG => ?_, fun gi gv hg => (by cases hg)⟩
  have H := cr_831 M (ρ 0) (ρ 1) (ρ 2) (hB _ List.mem_cons_self) (hB _ (List.mem_cons_of_mem _ List.mem_cons_self)) (hB _ (List.mem_cons_of_mem _ (List.mem_cons_of_mem _ List.mem_cons_self))) (cvp 322 (x' := ((ρ 0))) (y' := ((ρ 1))) (by show 0 + (1 * ρ 0 + 0) = _; omega) (by show 0 + (1 * ρ 1 + 0) = _; omega) (hm _ List.mem_cons_self)) (cvm (c := 59) (by decide) (x' := (2 : Int)) (y' := ((ρ 0))) (by show 2 + 0 = _; omega) (by show 0 + (1 * ρ 0 + 0) = _; omega) (hm _ (List.mem_cons_of_mem _ List.mem_cons_self))) (cvp 333 (x' := (0 : Int)) (y' := (0 : Int)) (by show 0 + 0 = _; omega) (by show 0 + 0 = _; omega) (hm _ (List.mem_cons_of_mem _ (List.mem_cons_of_mem _ List.mem_cons_self)))) (cvm (c := 58) (by decide) (x' := ((ρ 0))) (y' := ((ρ 2))) (by show 0 + (1 * ρ 0 + 0) = _; omega) (by show 0 + (1 * ρ 2 + 0) = _; omega) (hm _ (List.mem_cons_of_mem _ (List.mem_cons_of_mem _ (List.mem_cons_of_mem _ List.mem_cons_self))))) (by have h := hF _ List.mem_cons_self; have h : 0 ≤ (-1) + ((-1) * ρ 1 + (1 * ρ 2 + 0)) := h; omega) hG
  obtain ⟨k0, -⟩ := H
  exact ⟨_, List.mem_cons_self, ρ, fun _ _ => rfl, (okM_c (pvp 323 (by show 0 + 0 = _; omega) (by show 0 + (1 * ρ 2 + 0) = _; omega) k0) okM_n), okB_n, okF_n⟩
-- gs2
theorem cr_832 (M : pM) (s0 s1 s2 s3 : Int) (b0 : 0 ≤ s0 ∧ s0 ≤ 2) (b1 : 0 ≤ s1 ∧ s1 ≤ 63) (b2 : 0 ≤ s2 ∧ s2 ≤ 1980) (b3 : (-2147483648) ≤ s3 ∧ s3 ≤ 2147483647) (m0 : HP 333 (0 : Int) (0 : Int) M) (m1 : (0 ≤ (s0) ∧ M 58 (s0).toNat = (s3))) (m2 : (0 ≤ (2 : Int) ∧ M 59 (2 : Int).toNat = (s0))) (m3 : (0 ≤ (2 : Int) ∧ M 56 (2 : Int).toNat = (s1))) (m4 : (0 ≤ (s1) ∧ M 57 (s1).toNat = (s2))) (hG : gI M) : (HP 332 (0 : Int) (0 : Int) (st M 58 (s0).toNat ((-2) * s2 + s3)) ∧ True) := by
  have hj : hrow 59 3 M 2 = s0.toNat := hrow_v (by decide) (by have h : M 59 2 = s0 := m2.2; rw [h]; omega)
  have hp : ∀ o, o < 2 → hrow 59 3 M o = hrow 59 2 M o := fun o ho => hrow_lt ho (by decide)
  have hz : 2 * s2 = hmC M 2 := (hmC_v (o := 2) (c := s1.toNat) (by decide) (by omega) (by have h : M 56 2 = s1 := m3.2; rw [h]; omega) m4.2).symm
  have hl := Eq.mp hp_333 m0
  refine ⟨Eq.mpr hp_332 (fun a ha => ?_), trivial⟩
  rw [hmC_st (by decide) (by decide), hrow_st (by decide)]
  exact ld_d (R := fun a => M 58 a) (R' := fun a => st M 58 (s0).toNat ((-2) * s2 + s3) 58 a) hp hj hl (fun a ha => by
      show st M 58 (s0).toNat ((-2) * s2 + s3) 58 a = if a = s0.toNat then M 58 s0.toNat - 2 * s2 else M 58 a
      rw [hst_v]
      by_cases e : a = s0.toNat
      · rw [if_pos e, if_pos e, m1.2]; omega
      · rw [if_neg e, if_neg e]) hz (by omega) a ha
theorem rul_832 : Rul r_832 := by
  refine ⟨fun h => (by cases h), fun gi gv hg ρ M hm hB hF hG => ?_⟩
  obtain ⟨g1, g2⟩ := List.cons.inj (show ([aI ((0 : Int), ([(0, 1)] : List (Nat × Int))), aI ((0 : Int), ([(2, (-2)), (3, 1)] : List (Nat × Int)))] : List av) = [.inl gi, .inl gv] from hg)
  obtain ⟨g2, -⟩ := List.cons.inj g2
  cases g1
  cases g2
  have ei : ev ρ ((0 : Int), ([(0, 1)] : List (Nat × Int))) = ((ρ 0)) := by show 0 + (1 * ρ 0 + 0) = _; omega
  have ew : ev ρ ((0 : Int), ([(2, (-2)), (3, 1)] : List (Nat × Int))) = ((-2) * (ρ 2) + (ρ 3)) := by show 0 + ((-2) * ρ 2 + (1 * ρ 3 + 0)) = _; omega
  rw [show (st M (ctj r_832) (ev ρ ((0 : Int), ([(0, 1)] : List (Nat × Int)))).toNat (ev ρ ((0 : Int), ([(2, (-2)), (3, 1)] : List (Nat × Int))))) = (st M 58 ((ρ 0)).toNat ((-2) * (ρ 2) + (ρ 3))) from by rw [ei, ew]; rfl]
  have H := cr_832 M (ρ 0) (ρ 1) (ρ 2) (ρ 3) (hB _ List.mem_cons_self) (hB _ (List.mem_cons_of_mem _ List.mem_cons_self)) (hB _ (List.mem_cons_of_mem _ (List.mem_cons_of_mem _ List.mem_cons_self))) (hB _ (List.mem_cons_of_mem _ (List.mem_cons_of_mem _ (List.mem_cons_of_mem _ List.mem_cons_self)))) (cvp 333 (x' := (0 : Int)) (y' := (0 : Int)) (by show 0 + 0 = _; omega) (by show 0 + 0 = _; omega) (hm _ List.mem_cons_self)) (cvm (c := 58) (by decide) (x' := ((ρ 0))) (y' := ((ρ 3))) (by show 0 + (1 * ρ 0 + 0) = _; omega) (by show 0 + (1 * ρ 3 + 0) = _; omega) (hm _ (List.mem_cons_of_mem _ List.mem_cons_self))) (cvm (c := 59) (by decide) (x' := (2 : Int)) (y' := ((ρ 0))) (by show 2 + 0 = _; omega) (by show 0 + (1 * ρ 0 + 0) = _; omega) (hm _ (List.mem_cons_of_mem _ (List.mem_cons_of_mem _ List.mem_cons_self)))) (cvm (c := 56) (by decide) (x' := (2 : Int)) (y' := ((ρ 1))) (by show 2 + 0 = _; omega) (by show 0 + (1 * ρ 1 + 0) = _; omega) (hm _ (List.mem_cons_of_mem _ (List.mem_cons_of_mem _ (List.mem_cons_of_mem _ List.mem_cons_self))))) (cvm (c := 57) (by decide) (x' := ((ρ 1))) (y' := ((ρ 2))) (by show 0 + (1 * ρ 1 + 0) = _; omega) (by show 0 + (1 * ρ 2 + 0) = _; omega) (hm _ (List.mem_cons_of_mem _ (List.mem_cons_of_mem _ (List.mem_cons_of_mem _ (List.mem_cons_of_mem _ List.mem_cons_self)))))) hG
  obtain ⟨k0, -⟩ := H
  exact ⟨_, List.mem_cons_self, ρ, fun _ _ => rfl, (okM_c (pvp 332 (by show 0 + 0 = _; omega) (by show 0 + 0 = _; omega) k0) okM_n), okB_n, okF_n⟩
-- gsb2
theorem cr_833 (M : pM) (s0 s1 s2 s3 : Int) (b0 : 0 ≤ s0 ∧ s0 ≤ 2) (b1 : 0 ≤ s1 ∧ s1 ≤ 63) (b2 : 0 ≤ s2 ∧ s2 ≤ 1980) (b3 : (-2147483648) ≤ s3 ∧ s3 ≤ 2147483647) (m0 : HP 333 (0 : Int) (0 : Int) M) (m1 : (0 ≤ (s0) ∧ M 58 (s0).toNat = (s3))) (m2 : (0 ≤ (2 : Int) ∧ M 59 (2 : Int).toNat = (s0))) (m3 : (0 ≤ (2 : Int) ∧ M 56 (2 : Int).toNat = (s1))) (m4 : (0 ≤ (s1) ∧ M 57 (s1).toNat = (s2))) (hG : gI M) : (0 ≤ ((-2) * s2 + s3) ∧ True) := by
  have hj : hrow 59 3 M 2 = s0.toNat := hrow_v (by decide) (by have h : M 59 2 = s0 := m2.2; rw [h]; omega)
  have hp : ∀ o, o < 2 → hrow 59 3 M o = hrow 59 2 M o := fun o ho => hrow_lt ho (by decide)
  have hz : 2 * s2 = hmC M 2 := (hmC_v (o := 2) (c := s1.toNat) (by decide) (by omega) (by have h : M 56 2 = s1 := m3.2; rw [h]; omega) m4.2).symm
  have k1 := (Eq.mp hp_333 m0) s0.toNat (by omega)
  rw [m1.2] at k1
  have k2 : hps (hmC M) (hrow 59 3 M) s0.toNat 3 = hps (hmC M) (hrow 59 3 M) s0.toNat 2 + (if hrow 59 3 M 2 = s0.toNat then hmC M 2 else 0) := rfl
  rw [hj, if_pos rfl] at k2
  have k3 := hps_0 (t := hrow 59 3 M) (a := s0.toNat) (hmC_0 hG) 2
  exact ⟨by omega, trivial⟩
theorem rul_833 : Rul r_833 := by
  refine ⟨fun _ ρ M hm hB hF hG => ?_, fun gi gv hg => (by cases hg)⟩
  have H := cr_833 M (ρ 0) (ρ 1) (ρ 2) (ρ 3) (hB _ List.mem_cons_self) (hB _ (List.mem_cons_of_mem _ List.mem_cons_self)) (hB _ (List.mem_cons_of_mem _ (List.mem_cons_of_mem _ List.mem_cons_self))) (hB _ (List.mem_cons_of_mem _ (List.mem_cons_of_mem _ (List.mem_cons_of_mem _ List.mem_cons_self)))) (cvp 333 (x' := (0 : Int)) (y' := (0 : Int)) (by show 0 + 0 = _; omega) (by show 0 + 0 = _; omega) (hm _ List.mem_cons_self)) (cvm (c := 58) (by decide) (x' := ((ρ 0))) (y' := ((ρ 3))) (by show 0 + (1 * ρ 0 + 0) = _; omega) (by show 0 + (1 * ρ 3 + 0) = _; omega) (hm _ (List.mem_cons_of_mem _ List.mem_cons_self))) (cvm (c := 59) (by decide) (x' := (2 : Int)) (y' := ((ρ 0))) (by show 2 + 0 = _; omega) (by show 0 + (1 * ρ 0 + 0) = _; omega) (hm _ (List.mem_cons_of_mem _ (List.mem_cons_of_mem _ List.mem_cons_self)))) (cvm (c := 56) (by decide) (x' := (2 : Int)) (y' := ((ρ 1))) (by show 2 + 0 = _; omega) (by show 0 + (1 * ρ 1 + 0) = _; omega) (hm _ (List.mem_cons_of_mem _ (List.mem_cons_of_mem _ (List.mem_cons_of_mem _ List.mem_cons_self))))) (cvm (c := 57) (by decide) (x' := ((ρ 1))) (y' := ((ρ 2))) (by show 0 + (1 * ρ 1 + 0) = _; omega) (by show 0 + (1 * ρ 2 + 0) = _; omega) (hm _ (List.mem_cons_of_mem _ (List.mem_cons_of_mem _ (List.mem_cons_of_mem _ (List.mem_cons_of_mem _ List.mem_cons_self)))))) hG
  obtain ⟨f0, -⟩ := H
  exact ⟨_, List.mem_cons_self, ρ, fun _ _ => rfl, okM_n, okB_n, (okF_c (by show 0 ≤ 0 + ((-2) * ρ 2 + (1 * ρ 3 + 0)); omega) okF_n)⟩
-- gn2
theorem cr_834 (M : pM) (s0 s1 s2 : Int) (b0 : 0 ≤ s0 ∧ s0 ≤ 2) (b1 : 1 ≤ s1 ∧ s1 ≤ 3) (b2 : 0 ≤ s2 ∧ s2 ≤ 9) (m0 : HP 313 (s1) (s1) M) (m1 : (0 ≤ (2 : Int) ∧ M 59 (2 : Int).toNat = (s0))) (m2 : (0 ≤ (1 : Int) ∧ M 55 (1 : Int).toNat = (s2))) (f0 : 0 ≤ ((-1) * s0 + s1 - 1)) (f1 : 0 ≤ (s2 - 3)) (hG : gI M) : (HP 312 (s0 + 1) (s1) M ∧ True) := by
  obtain ⟨j0, T0, t1, t2, t3, t4, t5, t6, t7⟩ := Eq.mp hp_313 m0
  have hj : hrow 59 3 M 2 = s0.toNat := hrow_v (by decide) (by have h : M 59 2 = s0 := m1.2; rw [h]; omega)
  have hp : ∀ o, o < 2 → hrow 59 3 M o = hrow 59 2 M o := fun o ho => hrow_lt ho (by decide)
  have en : hnC M = s2.toNat := hnC_v (by omega) (by have h : M 55 1 = s2 := m2.2; rw [h]; omega)
  have ej : j0 = T0 := by omega
  subst ej
  exact ⟨Eq.mpr hp_312 ⟨s0.toNat + 1, j0, t1, t2, by omega, by omega, by omega, fun o ho => by rw [← hp o ho]; exact t6 o (by omega), hj_up hp hj (by omega) (by rw [en]; omega) t7⟩, trivial⟩
theorem rul_834 : Rul r_834 := by
  refine ⟨fun _ ρ M hm hB hF hG => ?_, fun gi gv hg => (by cases hg)⟩
  have H := cr_834 M (ρ 0) (ρ 1) (ρ 2) (hB _ List.mem_cons_self) (hB _ (List.mem_cons_of_mem _ List.mem_cons_self)) (hB _ (List.mem_cons_of_mem _ (List.mem_cons_of_mem _ List.mem_cons_self))) (cvp 313 (x' := ((ρ 1))) (y' := ((ρ 1))) (by show 0 + (1 * ρ 1 + 0) = _; omega) (by show 0 + (1 * ρ 1 + 0) = _; omega) (hm _ List.mem_cons_self)) (cvm (c := 59) (by decide) (x' := (2 : Int)) (y' := ((ρ 0))) (by show 2 + 0 = _; omega) (by show 0 + (1 * ρ 0 + 0) = _; omega) (hm _ (List.mem_cons_of_mem _ List.mem_cons_self))) (cvm (c := 55) (by decide) (x' := (1 : Int)) (y' := ((ρ 2))) (by show 1 + 0 = _; omega) (by show 0 + (1 * ρ 2 + 0) = _; omega) (hm _ (List.mem_cons_of_mem _ (List.mem_cons_of_mem _ List.mem_cons_self)))) (by have h := hF _ List.mem_cons_self; have h : 0 ≤ (-1) + ((-1) * ρ 0 + (1 * ρ 1 + 0)) := h; omega) (by have h := hF _ (List.mem_cons_of_mem _ List.mem_cons_self); have h : 0 ≤ (-3) + (1 * ρ 2 + 0) := h; omega) hG
  obtain ⟨k0, -⟩ := H
  exact ⟨_, List.mem_cons_self, ρ, fun _ _ => rfl, (okM_c (pvp 312 (by show 1 + (1 * ρ 0 + 0) = _; omega) (by show 0 + (1 * ρ 1 + 0) = _; omega) k0) okM_n), okB_n, okF_n⟩
-- ge2
theorem cr_835 (M : pM) (s0 s1 s2 s3 s4 : Int) (b0 : 0 ≤ s0 ∧ s0 ≤ 2) (b1 : 1 ≤ s1 ∧ s1 ≤ 3) (b2 : 0 ≤ s2 ∧ s2 ≤ 35640) (b3 : 0 ≤ s3 ∧ s3 ≤ 0) (b4 : 0 ≤ s4 ∧ s4 ≤ 9) (m0 : HP 312 (s0 + 1) (s1) M) (m1 : HP 332 (0 : Int) (0 : Int) M) (m2 : (0 ≤ (s0) ∧ M 58 (s0).toNat = (s3))) (m3 : HP 322 (s0) (s2) M) (m4 : (0 ≤ (1 : Int) ∧ M 55 (1 : Int).toNat = (s4))) (f0 : 0 ≤ (s4 - 3)) (f1 : 0 ≤ ((-1) * s0 + s1 - 1)) (hG : gI M) : (HP 312 (s1) (s1) M ∧ True) := by
  obtain ⟨j0, T0, t1, t2, t3, t4, t5, t6, t7⟩ := Eq.mp hp_312 m0
  obtain ⟨j1, x1, x2, x3⟩ := Eq.mp hp_322 m3
  have en : hnC M = s4.toNat := hnC_v (by omega) (by have h : M 55 1 = s4 := m4.2; rw [h]; omega)
  have ej : j1 = s0.toNat := by omega
  subst ej
  have ek : j0 = s0.toNat + 1 := by omega
  subst ek
  have k1 := (Eq.mp hp_332 m1) s0.toNat (by omega)
  rw [m2.2] at k1
  exact ⟨Eq.mpr hp_312 ⟨T0, T0, t1, t2, Nat.le_refl _, by omega, by omega, t6, hj_sw (by rw [en]; omega) (by omega) t2 t7 x3 (by omega)⟩, trivial⟩
theorem rul_835 : Rul r_835 := by
  refine ⟨fun _ ρ M hm hB hF hG => ?_, fun gi gv hg => (by cases hg)⟩
  have H := cr_835 M (ρ 0) (ρ 1) (ρ 2) (ρ 3) (ρ 4) (hB _ List.mem_cons_self) (hB _ (List.mem_cons_of_mem _ List.mem_cons_self)) (hB _ (List.mem_cons_of_mem _ (List.mem_cons_of_mem _ List.mem_cons_self))) (hB _ (List.mem_cons_of_mem _ (List.mem_cons_of_mem _ (List.mem_cons_of_mem _ List.mem_cons_self)))) (hB _ (List.mem_cons_of_mem _ (List.mem_cons_of_mem _ (List.mem_cons_of_mem _ (List.mem_cons_of_mem _ List.mem_cons_self))))) (cvp 312 (x' := ((ρ 0) + 1)) (y' := ((ρ 1))) (by show 1 + (1 * ρ 0 + 0) = _; omega) (by show 0 + (1 * ρ 1 + 0) = _; omega) (hm _ List.mem_cons_self)) (cvp 332 (x' := (0 : Int)) (y' := (0 : Int)) (by show 0 + 0 = _; omega) (by show 0 + 0 = _; omega) (hm _ (List.mem_cons_of_mem _ List.mem_cons_self))) (cvm (c := 58) (by decide) (x' := ((ρ 0))) (y' := ((ρ 3))) (by show 0 + (1 * ρ 0 + 0) = _; omega) (by show 0 + (1 * ρ 3 + 0) = _; omega) (hm _ (List.mem_cons_of_mem _ (List.mem_cons_of_mem _ List.mem_cons_self)))) (cvp 322 (x' := ((ρ 0))) (y' := ((ρ 2))) (by show 0 + (1 * ρ 0 + 0) = _; omega) (by show 0 + (1 * ρ 2 + 0) = _; omega) (hm _ (List.mem_cons_of_mem _ (List.mem_cons_of_mem _ (List.mem_cons_of_mem _ List.mem_cons_self))))) (cvm (c := 55) (by decide) (x' := (1 : Int)) (y' := ((ρ 4))) (by show 1 + 0 = _; omega) (by show 0 + (1 * ρ 4 + 0) = _; omega) (hm _ (List.mem_cons_of_mem _ (List.mem_cons_of_mem _ (List.mem_cons_of_mem _ (List.mem_cons_of_mem _ List.mem_cons_self)))))) (by have h := hF _ List.mem_cons_self; have h : 0 ≤ (-3) + (1 * ρ 4 + 0) := h; omega) (by have h := hF _ (List.mem_cons_of_mem _ List.mem_cons_self); have h : 0 ≤ (-1) + ((-1) * ρ 0 + (1 * ρ 1 + 0)) := h; omega) hG
  obtain ⟨k0, -⟩ := H
  exact ⟨_, List.mem_cons_self, ρ, fun _ _ => rfl, (okM_c (pvp 312 (by show 0 + (1 * ρ 1 + 0) = _; omega) (by show 0 + (1 * ρ 1 + 0) = _; omega) k0) okM_n), okB_n, okF_n⟩
-- gz2
theorem cr_836 (M : pM) (s0 s1 s2 : Int) (b0 : 0 ≤ s0 ∧ s0 ≤ 2) (b1 : 0 ≤ s1 ∧ s1 ≤ 35640) (b2 : (-2147483648) ≤ s2 ∧ s2 ≤ 2147483647) (m0 : HP 322 (s0) (s1) M) (m1 : HP 332 (0 : Int) (0 : Int) M) (m2 : (0 ≤ (s0) ∧ M 58 (s0).toNat = (s2))) (f0 : 0 ≤ (s2 - 1)) (hG : gI M) : (HP 322 (s0 + 1) (s1) M ∧ True) := by
  obtain ⟨j1, x1, x2, x3⟩ := Eq.mp hp_322 m0
  have ej : j1 = s0.toNat := by omega
  subst ej
  have k1 := (Eq.mp hp_332 m1) s0.toNat (by omega)
  rw [m2.2] at k1
  exact ⟨Eq.mpr hp_322 ⟨s0.toNat + 1, by omega, by omega, mx_z x3 (by omega)⟩, trivial⟩
theorem rul_836 : Rul r_836 := by
  refine ⟨fun _ ρ M hm hB hF hG => ?_, fun gi gv hg => (by cases hg)⟩
  have H := cr_836 M (ρ 0) (ρ 1) (ρ 2) (hB _ List.mem_cons_self) (hB _ (List.mem_cons_of_mem _ List.mem_cons_self)) (hB _ (List.mem_cons_of_mem _ (List.mem_cons_of_mem _ List.mem_cons_self))) (cvp 322 (x' := ((ρ 0))) (y' := ((ρ 1))) (by show 0 + (1 * ρ 0 + 0) = _; omega) (by show 0 + (1 * ρ 1 + 0) = _; omega) (hm _ List.mem_cons_self)) (cvp 332 (x' := (0 : Int)) (y' := (0 : Int)) (by show 0 + 0 = _; omega) (by show 0 + 0 = _; omega) (hm _ (List.mem_cons_of_mem _ List.mem_cons_self))) (cvm (c := 58) (by decide) (x' := ((ρ 0))) (y' := ((ρ 2))) (by show 0 + (1 * ρ 0 + 0) = _; omega) (by show 0 + (1 * ρ 2 + 0) = _; omega) (hm _ (List.mem_cons_of_mem _ (List.mem_cons_of_mem _ List.mem_cons_self)))) (by have h := hF _ List.mem_cons_self; have h : 0 ≤ (-1) + (1 * ρ 2 + 0) := h; omega) hG
  obtain ⟨k0, -⟩ := H
  exact ⟨_, List.mem_cons_self, ρ, fun _ _ => rfl, (okM_c (pvp 322 (by show 1 + (1 * ρ 0 + 0) = _; omega) (by show 0 + (1 * ρ 1 + 0) = _; omega) k0) okM_n), okB_n, okF_n⟩
-- gf2
theorem cr_837 (M : pM) (s0 s1 : Int) (b0 : 0 ≤ s0 ∧ s0 ≤ 3) (b1 : 1 ≤ s1 ∧ s1 ≤ 3) (m0 : HP 312 (s0) (s1) M) (f0 : 0 ≤ (s0 + (-1) * s1)) (f1 : 0 ≤ ((-1) * s0 + s1)) (hG : gI M) : (HP 312 (s1) (s1) M ∧ True) := by
  obtain ⟨j0, T0, t1, t2, t3, t4, t5, t6, t7⟩ := Eq.mp hp_312 m0
  have ej : j0 = T0 := by omega
  subst ej
  exact ⟨Eq.mpr hp_312 ⟨j0, j0, t1, t2, Nat.le_refl _, by omega, by omega, t6, t7⟩, trivial⟩
theorem rul_837 : Rul r_837 := by
  refine ⟨fun _ ρ M hm hB hF hG => ?_, fun gi gv hg => (by cases hg)⟩
  have H := cr_837 M (ρ 0) (ρ 1) (hB _ List.mem_cons_self) (hB _ (List.mem_cons_of_mem _ List.mem_cons_self)) (cvp 312 (x' := ((ρ 0))) (y' := ((ρ 1))) (by show 0 + (1 * ρ 0 + 0) = _; omega) (by show 0 + (1 * ρ 1 + 0) = _; omega) (hm _ List.mem_cons_self)) (by have h := hF _ List.mem_cons_self; have h : 0 ≤ 0 + (1 * ρ 0 + ((-1) * ρ 1 + 0)) := h; omega) (by have h := hF _ (List.mem_cons_of_mem _ List.mem_cons_self); have h : 0 ≤ 0 + ((-1) * ρ 0 + (1 * ρ 1 + 0)) := h; omega) hG
  obtain ⟨k0, -⟩ := H
  exact ⟨_, List.mem_cons_self, ρ, fun _ _ => rfl, (okM_c (pvp 312 (by show 0 + (1 * ρ 1 + 0) = _; omega) (by show 0 + (1 * ρ 1 + 0) = _; omega) k0) okM_n), okB_n, okF_n⟩
-- gb2
theorem cr_838 (M : pM) (s0 s1 s2 : Int) (b0 : 0 ≤ s0 ∧ s0 ≤ 35640) (b1 : 0 ≤ s1 ∧ s1 ≤ 3) (b2 : 0 ≤ s2 ∧ s2 ≤ 9) (m0 : HP 322 (s1) (s0) M) (m1 : HP 342 (s2) (0 : Int) M) (f0 : 0 ≤ (s2 - 2)) (hG : gI M) : (0 ≤ ((-1) * s0 + 7920) ∧ True) := by
  obtain ⟨j1, x1, x2, x3⟩ := Eq.mp hp_322 m0
  obtain ⟨h1, h2, h3⟩ := Eq.mp hp_342 m1
  obtain ⟨a, a1, a2⟩ := x3.2.1
  have k := hps_b (m := hmC M) (t := (hrow 59 2 M)) (a := a) (K := 3960) (by decide) (g := 2) (fun o ho => h3 o (by omega))
  rw [a2] at k
  exact ⟨by omega, trivial⟩
theorem rul_838 : Rul r_838 := by
  refine ⟨fun _ ρ M hm hB hF hG => ?_, fun gi gv hg => (by cases hg)⟩
  have H := cr_838 M (ρ 0) (ρ 1) (ρ 2) (hB _ List.mem_cons_self) (hB _ (List.mem_cons_of_mem _ List.mem_cons_self)) (hB _ (List.mem_cons_of_mem _ (List.mem_cons_of_mem _ List.mem_cons_self))) (cvp 322 (x' := ((ρ 1))) (y' := ((ρ 0))) (by show 0 + (1 * ρ 1 + 0) = _; omega) (by show 0 + (1 * ρ 0 + 0) = _; omega) (hm _ List.mem_cons_self)) (cvp 342 (x' := ((ρ 2))) (y' := (0 : Int)) (by show 0 + (1 * ρ 2 + 0) = _; omega) (by show 0 + 0 = _; omega) (hm _ (List.mem_cons_of_mem _ List.mem_cons_self))) (by have h := hF _ List.mem_cons_self; have h : 0 ≤ (-2) + (1 * ρ 2 + 0) := h; omega) hG
  obtain ⟨f0, -⟩ := H
  exact ⟨_, List.mem_cons_self, ρ, fun _ _ => rfl, okM_n, okB_n, (okF_c (by show 0 ≤ 7920 + ((-1) * ρ 0 + 0); omega) okF_n)⟩
-- gpr3
theorem cr_839 (M : pM) (s0 s1 s2 s3 : Int) (b0 : 1 ≤ s0 ∧ s0 ≤ 3) (b1 : 0 ≤ s1 ∧ s1 ≤ 35640) (b2 : 0 ≤ s2 ∧ s2 ≤ 9) (b3 : 0 ≤ s3 ∧ s3 ≤ 1000000) (m0 : HP 313 (0 : Int) (s0) M) (m1 : HP 323 (0 : Int) (s1) M) (m2 : (0 ≤ (1 : Int) ∧ M 55 (1 : Int).toNat = (s2))) (m3 : (0 ≤ (6 : Int) ∧ M 55 (6 : Int).toNat = (s3))) (f0 : 0 ≤ (s1 + (-1) * s3)) (f1 : 0 ≤ (s2 - 3)) (hG : gI M) : (HP 313 (s0) (s0) M ∧ True) := by
  obtain ⟨j0, T0, t1, t2, t3, t4, t5, t6, t7⟩ := Eq.mp hp_313 m0
  obtain ⟨j1, x1, x2, x3⟩ := Eq.mp hp_323 m1
  have en : hnC M = s2.toNat := hnC_v (by omega) (by have h : M 55 1 = s2 := m2.2; rw [h]; omega)
  have eb : M 55 6 = s3 := m3.2
  have ej : j0 = 0 := by omega
  subst ej
  exact ⟨Eq.mpr hp_313 ⟨T0, T0, t1, t2, Nat.le_refl _, by omega, by omega, t6, hj_pr (hmC_0 hG) (by rw [en]; omega) t7 x3 (by rw [eb]; omega)⟩, trivial⟩
theorem rul_839 : Rul r_839 := by
  refine ⟨fun _ ρ M hm hB hF hG => ?_, fun gi gv hg => (by cases hg)⟩
  have H := cr_839 M (ρ 0) (ρ 1) (ρ 2) (ρ 3) (hB _ List.mem_cons_self) (hB _ (List.mem_cons_of_mem _ List.mem_cons_self)) (hB _ (List.mem_cons_of_mem _ (List.mem_cons_of_mem _ List.mem_cons_self))) (hB _ (List.mem_cons_of_mem _ (List.mem_cons_of_mem _ (List.mem_cons_of_mem _ List.mem_cons_self)))) (cvp 313 (x' := (0 : Int)) (y' := ((ρ 0))) (by show 0 + 0 = _; omega) (by show 0 + (1 * ρ 0 + 0) = _; omega) (hm _ List.mem_cons_self)) (cvp 323 (x' := (0 : Int)) (y' := ((ρ 1))) (by show 0 + 0 = _; omega) (by show 0 + (1 * ρ 1 + 0) = _; omega) (hm _ (List.mem_cons_of_mem _ List.mem_cons_self))) (cvm (c := 55) (by decide) (x' := (1 : Int)) (y' := ((ρ 2))) (by show 1 + 0 = _; omega) (by show 0 + (1 * ρ 2 + 0) = _; omega) (hm _ (List.mem_cons_of_mem _ (List.mem_cons_of_mem _ List.mem_cons_self)))) (cvm (c := 55) (by decide) (x' := (6 : Int)) (y' := ((ρ 3))) (by show 6 + 0 = _; omega) (by show 0 + (1 * ρ 3 + 0) = _; omega) (hm _ (List.mem_cons_of_mem _ (List.mem_cons_of_mem _ (List.mem_cons_of_mem _ List.mem_cons_self))))) (by have h := hF _ List.mem_cons_self; have h : 0 ≤ 0 + (1 * ρ 1 + ((-1) * ρ 3 + 0)) := h; omega) (by have h := hF _ (List.mem_cons_of_mem _ List.mem_cons_self); have h : 0 ≤ (-3) + (1 * ρ 2 + 0) := h; omega) hG
  obtain ⟨k0, -⟩ := H
  exact ⟨_, List.mem_cons_self, ρ, fun _ _ => rfl, (okM_c (pvp 313 (by show 0 + (1 * ρ 0 + 0) = _; omega) (by show 0 + (1 * ρ 0 + 0) = _; omega) k0) okM_n), okB_n, okF_n⟩
-- glf3
theorem cr_840 (M : pM) (s0 s1 s2 s3 : Int) (b0 : 1 ≤ s0 ∧ s0 ≤ 3) (b1 : 0 ≤ s1 ∧ s1 ≤ 35640) (b2 : 0 ≤ s2 ∧ s2 ≤ 9) (b3 : 0 ≤ s3 ∧ s3 ≤ 1000000) (m0 : HP 313 (0 : Int) (s0) M) (m1 : HP 323 (0 : Int) (s1) M) (m2 : (0 ≤ (1 : Int) ∧ M 55 (1 : Int).toNat = (s2))) (m3 : (0 ≤ (6 : Int) ∧ M 55 (6 : Int).toNat = (s3))) (f0 : 0 ≤ ((-1) * s1 + s3 - 1)) (f1 : 0 ≤ ((-1) * s2 + 3)) (f2 : 0 ≤ (s2 - 3)) (hG : gI M) : (HP 340 (s1) (s0) M ∧ True) := by
  obtain ⟨j0, T0, t1, t2, t3, t4, t5, t6, t7⟩ := Eq.mp hp_313 m0
  obtain ⟨j1, x1, x2, x3⟩ := Eq.mp hp_323 m1
  have en : hnC M = s2.toNat := hnC_v (by omega) (by have h : M 55 1 = s2 := m2.2; rw [h]; omega)
  have eb : M 55 6 = s3 := m3.2
  have ej : j0 = 0 := by omega
  subst ej
  have en2 : hnC M = 3 := by rw [en]; omega
  rw [en2] at t7
  obtain ⟨k1, k2⟩ := hj_lf t7 x3 (by rw [eb]; omega)
  exact ⟨Eq.mpr hp_340 ⟨T0, t1, t2, by omega, by rw [en2]; exact fun o ho => by rw [hrow_lt ho (by decide)]; exact t6 o ho, by rw [en2]; exact (hco_c (fun o ho => hrow_lt ho (by decide))).trans k1, by rw [en2]; exact fun t ht hl => k2 t ht (hlx_c hl (fun o ho => hrow_lt ho (by decide)))⟩, trivial⟩
theorem rul_840 : Rul r_840 := by
  refine ⟨fun _ ρ M hm hB hF hG => ?_, fun gi gv hg => (by cases hg)⟩
  have H := cr_840 M (ρ 0) (ρ 1) (ρ 2) (ρ 3) (hB _ List.mem_cons_self) (hB _ (List.mem_cons_of_mem _ List.mem_cons_self)) (hB _ (List.mem_cons_of_mem _ (List.mem_cons_of_mem _ List.mem_cons_self))) (hB _ (List.mem_cons_of_mem _ (List.mem_cons_of_mem _ (List.mem_cons_of_mem _ List.mem_cons_self)))) (cvp 313 (x' := (0 : Int)) (y' := ((ρ 0))) (by show 0 + 0 = _; omega) (by show 0 + (1 * ρ 0 + 0) = _; omega) (hm _ List.mem_cons_self)) (cvp 323 (x' := (0 : Int)) (y' := ((ρ 1))) (by show 0 + 0 = _; omega) (by show 0 + (1 * ρ 1 + 0) = _; omega) (hm _ (List.mem_cons_of_mem _ List.mem_cons_self))) (cvm (c := 55) (by decide) (x' := (1 : Int)) (y' := ((ρ 2))) (by show 1 + 0 = _; omega) (by show 0 + (1 * ρ 2 + 0) = _; omega) (hm _ (List.mem_cons_of_mem _ (List.mem_cons_of_mem _ List.mem_cons_self)))) (cvm (c := 55) (by decide) (x' := (6 : Int)) (y' := ((ρ 3))) (by show 6 + 0 = _; omega) (by show 0 + (1 * ρ 3 + 0) = _; omega) (hm _ (List.mem_cons_of_mem _ (List.mem_cons_of_mem _ (List.mem_cons_of_mem _ List.mem_cons_self))))) (by have h := hF _ List.mem_cons_self; have h : 0 ≤ (-1) + ((-1) * ρ 1 + (1 * ρ 3 + 0)) := h; omega) (by have h := hF _ (List.mem_cons_of_mem _ List.mem_cons_self); have h : 0 ≤ 3 + ((-1) * ρ 2 + 0) := h; omega) (by have h := hF _ (List.mem_cons_of_mem _ (List.mem_cons_of_mem _ List.mem_cons_self)); have h : 0 ≤ (-3) + (1 * ρ 2 + 0) := h; omega) hG
  obtain ⟨k0, -⟩ := H
  exact ⟨_, List.mem_cons_self, ρ, fun _ _ => rfl, (okM_c (pvp 340 (by show 0 + (1 * ρ 1 + 0) = _; omega) (by show 0 + (1 * ρ 0 + 0) = _; omega) k0) okM_n), okB_n, okF_n⟩
-- glx3
theorem cr_841 (M : pM) (s0 s1 s2 s3 : Int) (b0 : 1 ≤ s0 ∧ s0 ≤ 3) (b1 : 0 ≤ s1 ∧ s1 ≤ 35640) (b2 : 0 ≤ s2 ∧ s2 ≤ 9) (b3 : 0 ≤ s3 ∧ s3 ≤ 1000000) (m0 : HP 340 (s1) (s0) M) (m1 : HP 341 (s2) (0 : Int) M) (m2 : (0 ≤ (1 : Int) ∧ M 55 (1 : Int).toNat = (s2))) (m3 : (0 ≤ (6 : Int) ∧ M 55 (6 : Int).toNat = (s3))) (f0 : 0 ≤ ((-1) * s2 + 3)) (f1 : 0 ≤ (s2 - 3)) (f2 : 0 ≤ (s1 + (-1) * s3)) (f3 : 0 ≤ ((-1) * s1 + s3)) (hG : gI M) : (HP 313 (s0) (s0) M ∧ True) := by
  obtain ⟨T0, q1, q2, q3, q4, q5, q6⟩ := Eq.mp hp_340 m0
  have c2 := Eq.mp hp_341 m1
  have en : hnC M = s2.toNat := hnC_v (by omega) (by have h : M 55 1 = s2 := m2.2; rw [h]; omega)
  have eb : M 55 6 = s3 := m3.2
  have en2 : hnC M = 3 := by rw [en]; omega
  rw [en2] at q4 q5 q6
  exact ⟨Eq.mpr hp_313 ⟨T0, T0, q1, q2, Nat.le_refl _, by omega, by omega, fun o ho => by rw [← hrow_lt (k := 9) ho (by decide)]; exact q4 o ho, by
      rw [en2]
      exact hj_le (q := hrow 59 9 M) (fun o ho => hrow_lt ho (by decide)) (fun o ho => hrow_e (by omega) (c2 o (by omega) (by omega))) q4 (q5.trans (by rw [eb]; omega)) (fun t ht hl => by have := q6 t ht hl; rw [eb]; omega)⟩, trivial⟩
theorem rul_841 : Rul r_841 := by
  refine ⟨fun _ ρ M hm hB hF hG => ?_, fun gi gv hg => (by cases hg)⟩
  have H := cr_841 M (ρ 0) (ρ 1) (ρ 2) (ρ 3) (hB _ List.mem_cons_self) (hB _ (List.mem_cons_of_mem _ List.mem_cons_self)) (hB _ (List.mem_cons_of_mem _ (List.mem_cons_of_mem _ List.mem_cons_self))) (hB _ (List.mem_cons_of_mem _ (List.mem_cons_of_mem _ (List.mem_cons_of_mem _ List.mem_cons_self)))) (cvp 340 (x' := ((ρ 1))) (y' := ((ρ 0))) (by show 0 + (1 * ρ 1 + 0) = _; omega) (by show 0 + (1 * ρ 0 + 0) = _; omega) (hm _ List.mem_cons_self)) (cvp 341 (x' := ((ρ 2))) (y' := (0 : Int)) (by show 0 + (1 * ρ 2 + 0) = _; omega) (by show 0 + 0 = _; omega) (hm _ (List.mem_cons_of_mem _ List.mem_cons_self))) (cvm (c := 55) (by decide) (x' := (1 : Int)) (y' := ((ρ 2))) (by show 1 + 0 = _; omega) (by show 0 + (1 * ρ 2 + 0) = _; omega) (hm _ (List.mem_cons_of_mem _ (List.mem_cons_of_mem _ List.mem_cons_self)))) (cvm (c := 55) (by decide) (x' := (6 : Int)) (y' := ((ρ 3))) (by show 6 + 0 = _; omega) (by show 0 + (1 * ρ 3 + 0) = _; omega) (hm _ (List.mem_cons_of_mem _ (List.mem_cons_of_mem _ (List.mem_cons_of_mem _ List.mem_cons_self))))) (by have h := hF _ List.mem_cons_self; have h : 0 ≤ 3 + ((-1) * ρ 2 + 0) := h; omega) (by have h := hF _ (List.mem_cons_of_mem _ List.mem_cons_self); have h : 0 ≤ (-3) + (1 * ρ 2 + 0) := h; omega) (by have h := hF _ (List.mem_cons_of_mem _ (List.mem_cons_of_mem _ List.mem_cons_self)); have h : 0 ≤ 0 + (1 * ρ 1 + ((-1) * ρ 3 + 0)) := h; omega) (by have h := hF _ (List.mem_cons_of_mem _ (List.mem_cons_of_mem _ (List.mem_cons_of_mem _ List.mem_cons_self))); have h : 0 ≤ 0 + ((-1) * ρ 1 + (1 * ρ 3 + 0)) := h; omega) hG
  obtain ⟨k0, -⟩ := H
  exact ⟨_, List.mem_cons_self, ρ, fun _ _ => rfl, (okM_c (pvp 313 (by show 0 + (1 * ρ 0 + 0) = _; omega) (by show 0 + (1 * ρ 0 + 0) = _; omega) k0) okM_n), okB_n, okF_n⟩
-- gh3
theorem cr_842 (M : pM) (s0 s1 s2 : Int) (b0 : 0 ≤ s0 ∧ s0 ≤ 2) (b1 : 1 ≤ s1 ∧ s1 ≤ 3) (b2 : 0 ≤ s2 ∧ s2 ≤ 9) (m0 : HP 313 (s0) (s1) M) (m1 : (0 ≤ (3 : Int) ∧ M 59 (3 : Int).toNat = (s0))) (m2 : (0 ≤ (1 : Int) ∧ M 55 (1 : Int).toNat = (s2))) (f0 : 0 ≤ ((-1) * s0 + s1 - 1)) (f1 : 0 ≤ (s2 - 4)) (hG : gI M) : (HP 314 (0 : Int) (s1) M ∧ True) := by
  obtain ⟨j0, T0, t1, t2, t3, t4, t5, t6, t7⟩ := Eq.mp hp_313 m0
  have hj : hrow 59 4 M 3 = s0.toNat := hrow_v (by decide) (by have h : M 59 3 = s0 := m1.2; rw [h]; omega)
  have hp : ∀ o, o < 3 → hrow 59 4 M o = hrow 59 3 M o := fun o ho => hrow_lt ho (by decide)
  have en : hnC M = s2.toNat := hnC_v (by omega) (by have h : M 55 1 = s2 := m2.2; rw [h]; omega)
  have ej : j0 = s0.toNat := by omega
  subst ej
  exact ⟨Eq.mpr hp_314 ⟨0, T0, t1, t2, by omega, by omega, by omega, fun o ho => by
      by_cases e : o = 3
      · rw [e, hj]; omega
      · rw [hp o (by omega)]; exact t6 o (by omega), hj_dn t1 hp hj (by omega) t7⟩, trivial⟩
theorem rul_842 : Rul r_842 := by
  refine ⟨fun _ ρ M hm hB hF hG => ?_, fun gi gv hg => (by cases hg)⟩
  have H := cr_842 M (ρ 0) (ρ 1) (ρ 2) (hB _ List.mem_cons_self) (hB _ (List.mem_cons_of_mem _ List.mem_cons_self)) (hB _ (List.mem_cons_of_mem _ (List.mem_cons_of_mem _ List.mem_cons_self))) (cvp 313 (x' := ((ρ 0))) (y' := ((ρ 1))) (by show 0 + (1 * ρ 0 + 0) = _; omega) (by show 0 + (1 * ρ 1 + 0) = _; omega) (hm _ List.mem_cons_self)) (cvm (c := 59) (by decide) (x' := (3 : Int)) (y' := ((ρ 0))) (by show 3 + 0 = _; omega) (by show 0 + (1 * ρ 0 + 0) = _; omega) (hm _ (List.mem_cons_of_mem _ List.mem_cons_self))) (cvm (c := 55) (by decide) (x' := (1 : Int)) (y' := ((ρ 2))) (by show 1 + 0 = _; omega) (by show 0 + (1 * ρ 2 + 0) = _; omega) (hm _ (List.mem_cons_of_mem _ (List.mem_cons_of_mem _ List.mem_cons_self)))) (by have h := hF _ List.mem_cons_self; have h : 0 ≤ (-1) + ((-1) * ρ 0 + (1 * ρ 1 + 0)) := h; omega) (by have h := hF _ (List.mem_cons_of_mem _ List.mem_cons_self); have h : 0 ≤ (-4) + (1 * ρ 2 + 0) := h; omega) hG
  obtain ⟨k0, -⟩ := H
  exact ⟨_, List.mem_cons_self, ρ, fun _ _ => rfl, (okM_c (pvp 314 (by show 0 + 0 = _; omega) (by show 0 + (1 * ρ 1 + 0) = _; omega) k0) okM_n), okB_n, okF_n⟩
-- gld3
theorem cr_843 (M : pM) (s0 s1 s2 s3 : Int) (b0 : 0 ≤ s0 ∧ s0 ≤ 2) (b1 : (-2147483648) ≤ s1 ∧ s1 ≤ 2147483647) (b2 : 0 ≤ s2 ∧ s2 ≤ 3) (b3 : 0 ≤ s3 ∧ s3 ≤ 35640) (m0 : HP 333 (0 : Int) (0 : Int) M) (m1 : (0 ≤ (s0) ∧ M 58 (s0).toNat = (s1))) (m2 : HP 323 (s2) (s3) M) (hG : gI M) : (0 ≤ (s1) ∧ 0 ≤ ((-1) * s1 + s3) ∧ True) := by
  obtain ⟨j1, x1, x2, x3⟩ := Eq.mp hp_323 m2
  have k1 := (Eq.mp hp_333 m0) s0.toNat (by omega)
  rw [m1.2] at k1
  have k2 := hps_0 (t := (hrow 59 3 M)) (a := s0.toNat) (hmC_0 hG) 3
  have k3 := x3.1 s0.toNat (by omega)
  exact ⟨by omega, by omega, trivial⟩
theorem rul_843 : Rul r_843 := by
  refine ⟨fun _ ρ M hm hB hF hG => ?_, fun gi gv hg => (by cases hg)⟩
  have H := cr_843 M (ρ 0) (ρ 1) (ρ 2) (ρ 3) (hB _ List.mem_cons_self) (hB _ (List.mem_cons_of_mem _ List.mem_cons_self)) (hB _ (List.mem_cons_of_mem _ (List.mem_cons_of_mem _ List.mem_cons_self))) (hB _ (List.mem_cons_of_mem _ (List.mem_cons_of_mem _ (List.mem_cons_of_mem _ List.mem_cons_self)))) (cvp 333 (x' := (0 : Int)) (y' := (0 : Int)) (by show 0 + 0 = _; omega) (by show 0 + 0 = _; omega) (hm _ List.mem_cons_self)) (cvm (c := 58) (by decide) (x' := ((ρ 0))) (y' := ((ρ 1))) (by show 0 + (1 * ρ 0 + 0) = _; omega) (by show 0 + (1 * ρ 1 + 0) = _; omega) (hm _ (List.mem_cons_of_mem _ List.mem_cons_self))) (cvp 323 (x' := ((ρ 2))) (y' := ((ρ 3))) (by show 0 + (1 * ρ 2 + 0) = _; omega) (by show 0 + (1 * ρ 3 + 0) = _; omega) (hm _ (List.mem_cons_of_mem _ (List.mem_cons_of_mem _ List.mem_cons_self)))) hG
  obtain ⟨f0, f1, -⟩ := H
  exact ⟨_, List.mem_cons_self, ρ, fun _ _ => rfl, okM_n, okB_n, (okF_c (by show 0 ≤ 0 + (1 * ρ 1 + 0); omega) (okF_c (by show 0 ≤ 0 + ((-1) * ρ 1 + (1 * ρ 3 + 0)); omega) okF_n))⟩
-- gl3
theorem cr_844 (M : pM) (s0 s1 s2 s3 : Int) (b0 : 0 ≤ s0 ∧ s0 ≤ 2) (b1 : 0 ≤ s1 ∧ s1 ≤ 63) (b2 : 0 ≤ s2 ∧ s2 ≤ 1980) (b3 : 0 ≤ s3 ∧ s3 ≤ 35640) (m0 : HP 333 (0 : Int) (0 : Int) M) (m1 : (0 ≤ (s0) ∧ M 58 (s0).toNat = (s3))) (m2 : (0 ≤ (3 : Int) ∧ M 59 (3 : Int).toNat = (s0))) (m3 : (0 ≤ (3 : Int) ∧ M 56 (3 : Int).toNat = (s1))) (m4 : (0 ≤ (s1) ∧ M 57 (s1).toNat = (s2))) (hG : gI M) : (HP 334 (0 : Int) (0 : Int) (st M 58 (s0).toNat (2 * s2 + s3)) ∧ True) := by
  have hj : hrow 59 4 M 3 = s0.toNat := hrow_v (by decide) (by have h : M 59 3 = s0 := m2.2; rw [h]; omega)
  have hp : ∀ o, o < 3 → hrow 59 4 M o = hrow 59 3 M o := fun o ho => hrow_lt ho (by decide)
  have hz : 2 * s2 = hmC M 3 := (hmC_v (o := 3) (c := s1.toNat) (by decide) (by omega) (by have h : M 56 3 = s1 := m3.2; rw [h]; omega) m4.2).symm
  have hl := Eq.mp hp_333 m0
  refine ⟨Eq.mpr hp_334 (fun a ha => ?_), trivial⟩
  rw [hmC_st (by decide) (by decide), hrow_st (by decide)]
  exact ld_u (R := fun a => M 58 a) (R' := fun a => st M 58 (s0).toNat (2 * s2 + s3) 58 a) hp hj hl (fun a ha => by
      show st M 58 (s0).toNat (2 * s2 + s3) 58 a = if a = s0.toNat then M 58 s0.toNat + 2 * s2 else M 58 a
      rw [hst_v]
      by_cases e : a = s0.toNat
      · rw [if_pos e, if_pos e, m1.2]; omega
      · rw [if_neg e, if_neg e]) hz (by omega) a ha
theorem rul_844 : Rul r_844 := by
  refine ⟨fun h => (by cases h), fun gi gv hg ρ M hm hB hF hG => ?_⟩
  obtain ⟨g1, g2⟩ := List.cons.inj (show ([aI ((0 : Int), ([(0, 1)] : List (Nat × Int))), aI ((0 : Int), ([(2, 2), (3, 1)] : List (Nat × Int)))] : List av) = [.inl gi, .inl gv] from hg)
  obtain ⟨g2, -⟩ := List.cons.inj g2
  cases g1
  cases g2
  have ei : ev ρ ((0 : Int), ([(0, 1)] : List (Nat × Int))) = ((ρ 0)) := by show 0 + (1 * ρ 0 + 0) = _; omega
  have ew : ev ρ ((0 : Int), ([(2, 2), (3, 1)] : List (Nat × Int))) = (2 * (ρ 2) + (ρ 3)) := by show 0 + (2 * ρ 2 + (1 * ρ 3 + 0)) = _; omega
  rw [show (st M (ctj r_844) (ev ρ ((0 : Int), ([(0, 1)] : List (Nat × Int)))).toNat (ev ρ ((0 : Int), ([(2, 2), (3, 1)] : List (Nat × Int))))) = (st M 58 ((ρ 0)).toNat (2 * (ρ 2) + (ρ 3))) from by rw [ei, ew]; rfl]
  have H := cr_844 M (ρ 0) (ρ 1) (ρ 2) (ρ 3) (hB _ List.mem_cons_self) (hB _ (List.mem_cons_of_mem _ List.mem_cons_self)) (hB _ (List.mem_cons_of_mem _ (List.mem_cons_of_mem _ List.mem_cons_self))) (hB _ (List.mem_cons_of_mem _ (List.mem_cons_of_mem _ (List.mem_cons_of_mem _ List.mem_cons_self)))) (cvp 333 (x' := (0 : Int)) (y' := (0 : Int)) (by show 0 + 0 = _; omega) (by show 0 + 0 = _; omega) (hm _ List.mem_cons_self)) (cvm (c := 58) (by decide) (x' := ((ρ 0))) (y' := ((ρ 3))) (by show 0 + (1 * ρ 0 + 0) = _; omega) (by show 0 + (1 * ρ 3 + 0) = _; omega) (hm _ (List.mem_cons_of_mem _ List.mem_cons_self))) (cvm (c := 59) (by decide) (x' := (3 : Int)) (y' := ((ρ 0))) (by show 3 + 0 = _; omega) (by show 0 + (1 * ρ 0 + 0) = _; omega) (hm _ (List.mem_cons_of_mem _ (List.mem_cons_of_mem _ List.mem_cons_self)))) (cvm (c := 56) (by decide) (x' := (3 : Int)) (y' := ((ρ 1))) (by show 3 + 0 = _; omega) (by show 0 + (1 * ρ 1 + 0) = _; omega) (hm _ (List.mem_cons_of_mem _ (List.mem_cons_of_mem _ (List.mem_cons_of_mem _ List.mem_cons_self))))) (cvm (c := 57) (by decide) (x' := ((ρ 1))) (y' := ((ρ 2))) (by show 0 + (1 * ρ 1 + 0) = _; omega) (by show 0 + (1 * ρ 2 + 0) = _; omega) (hm _ (List.mem_cons_of_mem _ (List.mem_cons_of_mem _ (List.mem_cons_of_mem _ (List.mem_cons_of_mem _ List.mem_cons_self)))))) hG
  obtain ⟨k0, -⟩ := H
  exact ⟨_, List.mem_cons_self, ρ, fun _ _ => rfl, (okM_c (pvp 334 (by show 0 + 0 = _; omega) (by show 0 + 0 = _; omega) k0) okM_n), okB_n, okF_n⟩
-- gm0_3
theorem cr_845 (M : pM) (s0 s1 s2 : Int) (b0 : 0 ≤ s0 ∧ s0 ≤ 2) (b1 : 0 ≤ s1 ∧ s1 ≤ 35640) (b2 : (-2147483648) ≤ s2 ∧ s2 ≤ 2147483647) (m0 : HP 323 (s0) (s1) M) (m1 : (0 ≤ (3 : Int) ∧ M 59 (3 : Int).toNat = (s0))) (m2 : HP 334 (0 : Int) (0 : Int) M) (m3 : (0 ≤ (s0) ∧ M 58 (s0).toNat = (s2))) (f0 : 0 ≤ (s1 + (-1) * s2)) (hG : gI M) : (HP 324 (0 : Int) (s1) M ∧ True) := by
  obtain ⟨j1, x1, x2, x3⟩ := Eq.mp hp_323 m0
  have hj : hrow 59 4 M 3 = s0.toNat := hrow_v (by decide) (by have h : M 59 3 = s0 := m1.2; rw [h]; omega)
  have hp : ∀ o, o < 3 → hrow 59 4 M o = hrow 59 3 M o := fun o ho => hrow_lt ho (by decide)
  have ej : j1 = s0.toNat := by omega
  subst ej
  have k1 := (Eq.mp hp_334 m2) s0.toNat (by omega)
  rw [m3.2] at k1
  have z := mx_u (hmC_0 hG) hp hj (by omega) x3 k1.symm
  rw [show max s1 s2 = s1 by omega] at z
  exact ⟨Eq.mpr hp_324 ⟨0, by omega, by omega, z⟩, trivial⟩
theorem rul_845 : Rul r_845 := by
  refine ⟨fun _ ρ M hm hB hF hG => ?_, fun gi gv hg => (by cases hg)⟩
  have H := cr_845 M (ρ 0) (ρ 1) (ρ 2) (hB _ List.mem_cons_self) (hB _ (List.mem_cons_of_mem _ List.mem_cons_self)) (hB _ (List.mem_cons_of_mem _ (List.mem_cons_of_mem _ List.mem_cons_self))) (cvp 323 (x' := ((ρ 0))) (y' := ((ρ 1))) (by show 0 + (1 * ρ 0 + 0) = _; omega) (by show 0 + (1 * ρ 1 + 0) = _; omega) (hm _ List.mem_cons_self)) (cvm (c := 59) (by decide) (x' := (3 : Int)) (y' := ((ρ 0))) (by show 3 + 0 = _; omega) (by show 0 + (1 * ρ 0 + 0) = _; omega) (hm _ (List.mem_cons_of_mem _ List.mem_cons_self))) (cvp 334 (x' := (0 : Int)) (y' := (0 : Int)) (by show 0 + 0 = _; omega) (by show 0 + 0 = _; omega) (hm _ (List.mem_cons_of_mem _ (List.mem_cons_of_mem _ List.mem_cons_self)))) (cvm (c := 58) (by decide) (x' := ((ρ 0))) (y' := ((ρ 2))) (by show 0 + (1 * ρ 0 + 0) = _; omega) (by show 0 + (1 * ρ 2 + 0) = _; omega) (hm _ (List.mem_cons_of_mem _ (List.mem_cons_of_mem _ (List.mem_cons_of_mem _ List.mem_cons_self))))) (by have h := hF _ List.mem_cons_self; have h : 0 ≤ 0 + (1 * ρ 1 + ((-1) * ρ 2 + 0)) := h; omega) hG
  obtain ⟨k0, -⟩ := H
  exact ⟨_, List.mem_cons_self, ρ, fun _ _ => rfl, (okM_c (pvp 324 (by show 0 + 0 = _; omega) (by show 0 + (1 * ρ 1 + 0) = _; omega) k0) okM_n), okB_n, okF_n⟩
-- gm1_3
theorem cr_846 (M : pM) (s0 s1 s2 : Int) (b0 : 0 ≤ s0 ∧ s0 ≤ 2) (b1 : 0 ≤ s1 ∧ s1 ≤ 35640) (b2 : (-2147483648) ≤ s2 ∧ s2 ≤ 2147483647) (m0 : HP 323 (s0) (s1) M) (m1 : (0 ≤ (3 : Int) ∧ M 59 (3 : Int).toNat = (s0))) (m2 : HP 334 (0 : Int) (0 : Int) M) (m3 : (0 ≤ (s0) ∧ M 58 (s0).toNat = (s2))) (f0 : 0 ≤ ((-1) * s1 + s2 - 1)) (hG : gI M) : (HP 324 (0 : Int) (s2) M ∧ True) := by
  obtain ⟨j1, x1, x2, x3⟩ := Eq.mp hp_323 m0
  have hj : hrow 59 4 M 3 = s0.toNat := hrow_v (by decide) (by have h : M 59 3 = s0 := m1.2; rw [h]; omega)
  have hp : ∀ o, o < 3 → hrow 59 4 M o = hrow 59 3 M o := fun o ho => hrow_lt ho (by decide)
  have ej : j1 = s0.toNat := by omega
  subst ej
  have k1 := (Eq.mp hp_334 m2) s0.toNat (by omega)
  rw [m3.2] at k1
  have z := mx_u (hmC_0 hG) hp hj (by omega) x3 k1.symm
  rw [show max s1 s2 = s2 by omega] at z
  exact ⟨Eq.mpr hp_324 ⟨0, by omega, by omega, z⟩, trivial⟩
theorem rul_846 : Rul r_846 := by
  refine ⟨fun _ ρ M hm hB hF hG => ?_, fun gi gv hg => (by cases hg)⟩
  have H := cr_846 M (ρ 0) (ρ 1) (ρ 2) (hB _ List.mem_cons_self) (hB _ (List.mem_cons_of_mem _ List.mem_cons_self)) (hB _ (List.mem_cons_of_mem _ (List.mem_cons_of_mem _ List.mem_cons_self))) (cvp 323 (x' := ((ρ 0))) (y' := ((ρ 1))) (by show 0 + (1 * ρ 0 + 0) = _; omega) (by show 0 + (1 * ρ 1 + 0) = _; omega) (hm _ List.mem_cons_self)) (cvm (c := 59) (by decide) (x' := (3 : Int)) (y' := ((ρ 0))) (by show 3 + 0 = _; omega) (by show 0 + (1 * ρ 0 + 0) = _; omega) (hm _ (List.mem_cons_of_mem _ List.mem_cons_self))) (cvp 334 (x' := (0 : Int)) (y' := (0 : Int)) (by show 0 + 0 = _; omega) (by show 0 + 0 = _; omega) (hm _ (List.mem_cons_of_mem _ (List.mem_cons_of_mem _ List.mem_cons_self)))) (cvm (c := 58) (by decide) (x' := ((ρ 0))) (y' := ((ρ 2))) (by show 0 + (1 * ρ 0 + 0) = _; omega) (by show 0 + (1 * ρ 2 + 0) = _; omega) (hm _ (List.mem_cons_of_mem _ (List.mem_cons_of_mem _ (List.mem_cons_of_mem _ List.mem_cons_self))))) (by have h := hF _ List.mem_cons_self; have h : 0 ≤ (-1) + ((-1) * ρ 1 + (1 * ρ 2 + 0)) := h; omega) hG
  obtain ⟨k0, -⟩ := H
  exact ⟨_, List.mem_cons_self, ρ, fun _ _ => rfl, (okM_c (pvp 324 (by show 0 + 0 = _; omega) (by show 0 + (1 * ρ 2 + 0) = _; omega) k0) okM_n), okB_n, okF_n⟩
-- gs3
theorem cr_847 (M : pM) (s0 s1 s2 s3 : Int) (b0 : 0 ≤ s0 ∧ s0 ≤ 2) (b1 : 0 ≤ s1 ∧ s1 ≤ 63) (b2 : 0 ≤ s2 ∧ s2 ≤ 1980) (b3 : (-2147483648) ≤ s3 ∧ s3 ≤ 2147483647) (m0 : HP 334 (0 : Int) (0 : Int) M) (m1 : (0 ≤ (s0) ∧ M 58 (s0).toNat = (s3))) (m2 : (0 ≤ (3 : Int) ∧ M 59 (3 : Int).toNat = (s0))) (m3 : (0 ≤ (3 : Int) ∧ M 56 (3 : Int).toNat = (s1))) (m4 : (0 ≤ (s1) ∧ M 57 (s1).toNat = (s2))) (hG : gI M) : (HP 333 (0 : Int) (0 : Int) (st M 58 (s0).toNat ((-2) * s2 + s3)) ∧ True) := by
  have hj : hrow 59 4 M 3 = s0.toNat := hrow_v (by decide) (by have h : M 59 3 = s0 := m2.2; rw [h]; omega)
  have hp : ∀ o, o < 3 → hrow 59 4 M o = hrow 59 3 M o := fun o ho => hrow_lt ho (by decide)
  have hz : 2 * s2 = hmC M 3 := (hmC_v (o := 3) (c := s1.toNat) (by decide) (by omega) (by have h : M 56 3 = s1 := m3.2; rw [h]; omega) m4.2).symm
  have hl := Eq.mp hp_334 m0
  refine ⟨Eq.mpr hp_333 (fun a ha => ?_), trivial⟩
  rw [hmC_st (by decide) (by decide), hrow_st (by decide)]
  exact ld_d (R := fun a => M 58 a) (R' := fun a => st M 58 (s0).toNat ((-2) * s2 + s3) 58 a) hp hj hl (fun a ha => by
      show st M 58 (s0).toNat ((-2) * s2 + s3) 58 a = if a = s0.toNat then M 58 s0.toNat - 2 * s2 else M 58 a
      rw [hst_v]
      by_cases e : a = s0.toNat
      · rw [if_pos e, if_pos e, m1.2]; omega
      · rw [if_neg e, if_neg e]) hz (by omega) a ha
theorem rul_847 : Rul r_847 := by
  refine ⟨fun h => (by cases h), fun gi gv hg ρ M hm hB hF hG => ?_⟩
  obtain ⟨g1, g2⟩ := List.cons.inj (show ([aI ((0 : Int), ([(0, 1)] : List (Nat × Int))), aI ((0 : Int), ([(2, (-2)), (3, 1)] : List (Nat × Int)))] : List av) = [.inl gi, .inl gv] from hg)
  obtain ⟨g2, -⟩ := List.cons.inj g2
  cases g1
  cases g2
  have ei : ev ρ ((0 : Int), ([(0, 1)] : List (Nat × Int))) = ((ρ 0)) := by show 0 + (1 * ρ 0 + 0) = _; omega
  have ew : ev ρ ((0 : Int), ([(2, (-2)), (3, 1)] : List (Nat × Int))) = ((-2) * (ρ 2) + (ρ 3)) := by show 0 + ((-2) * ρ 2 + (1 * ρ 3 + 0)) = _; omega
  rw [show (st M (ctj r_847) (ev ρ ((0 : Int), ([(0, 1)] : List (Nat × Int)))).toNat (ev ρ ((0 : Int), ([(2, (-2)), (3, 1)] : List (Nat × Int))))) = (st M 58 ((ρ 0)).toNat ((-2) * (ρ 2) + (ρ 3))) from by rw [ei, ew]; rfl]
  have H := cr_847 M (ρ 0) (ρ 1) (ρ 2) (ρ 3) (hB _ List.mem_cons_self) (hB _ (List.mem_cons_of_mem _ List.mem_cons_self)) (hB _ (List.mem_cons_of_mem _ (List.mem_cons_of_mem _ List.mem_cons_self))) (hB _ (List.mem_cons_of_mem _ (List.mem_cons_of_mem _ (List.mem_cons_of_mem _ List.mem_cons_self)))) (cvp 334 (x' := (0 : Int)) (y' := (0 : Int)) (by show 0 + 0 = _; omega) (by show 0 + 0 = _; omega) (hm _ List.mem_cons_self)) (cvm (c := 58) (by decide) (x' := ((ρ 0))) (y' := ((ρ 3))) (by show 0 + (1 * ρ 0 + 0) = _; omega) (by show 0 + (1 * ρ 3 + 0) = _; omega) (hm _ (List.mem_cons_of_mem _ List.mem_cons_self))) (cvm (c := 59) (by decide) (x' := (3 : Int)) (y' := ((ρ 0))) (by show 3 + 0 = _; omega) (by show 0 + (1 * ρ 0 + 0) = _; omega) (hm _ (List.mem_cons_of_mem _ (List.mem_cons_of_mem _ List.mem_cons_self)))) (cvm (c := 56) (by decide) (x' := (3 : Int)) (y' := ((ρ 1))) (by show 3 + 0 = _; omega) (by show 0 + (1 * ρ 1 + 0) = _; omega) (hm _ (List.mem_cons_of_mem _ (List.mem_cons_of_mem _ (List.mem_cons_of_mem _ List.mem_cons_self))))) (cvm (c := 57) (by decide) (x' := ((ρ 1))) (y' := ((ρ 2))) (by show 0 + (1 * ρ 1 + 0) = _; omega) (by show 0 + (1 * ρ 2 + 0) = _; omega) (hm _ (List.mem_cons_of_mem _ (List.mem_cons_of_mem _ (List.mem_cons_of_mem _ (List.mem_cons_of_mem _ List.mem_cons_self)))))) hG
  obtain ⟨k0, -⟩ := H
  exact ⟨_, List.mem_cons_self, ρ, fun _ _ => rfl, (okM_c (pvp 333 (by show 0 + 0 = _; omega) (by show 0 + 0 = _; omega) k0) okM_n), okB_n, okF_n⟩
-- gsb3
theorem cr_848 (M : pM) (s0 s1 s2 s3 : Int) (b0 : 0 ≤ s0 ∧ s0 ≤ 2) (b1 : 0 ≤ s1 ∧ s1 ≤ 63) (b2 : 0 ≤ s2 ∧ s2 ≤ 1980) (b3 : (-2147483648) ≤ s3 ∧ s3 ≤ 2147483647) (m0 : HP 334 (0 : Int) (0 : Int) M) (m1 : (0 ≤ (s0) ∧ M 58 (s0).toNat = (s3))) (m2 : (0 ≤ (3 : Int) ∧ M 59 (3 : Int).toNat = (s0))) (m3 : (0 ≤ (3 : Int) ∧ M 56 (3 : Int).toNat = (s1))) (m4 : (0 ≤ (s1) ∧ M 57 (s1).toNat = (s2))) (hG : gI M) : (0 ≤ ((-2) * s2 + s3) ∧ True) := by
  have hj : hrow 59 4 M 3 = s0.toNat := hrow_v (by decide) (by have h : M 59 3 = s0 := m2.2; rw [h]; omega)
  have hp : ∀ o, o < 3 → hrow 59 4 M o = hrow 59 3 M o := fun o ho => hrow_lt ho (by decide)
  have hz : 2 * s2 = hmC M 3 := (hmC_v (o := 3) (c := s1.toNat) (by decide) (by omega) (by have h : M 56 3 = s1 := m3.2; rw [h]; omega) m4.2).symm
  have k1 := (Eq.mp hp_334 m0) s0.toNat (by omega)
  rw [m1.2] at k1
  have k2 : hps (hmC M) (hrow 59 4 M) s0.toNat 4 = hps (hmC M) (hrow 59 4 M) s0.toNat 3 + (if hrow 59 4 M 3 = s0.toNat then hmC M 3 else 0) := rfl
  rw [hj, if_pos rfl] at k2
  have k3 := hps_0 (t := hrow 59 4 M) (a := s0.toNat) (hmC_0 hG) 3
  exact ⟨by omega, trivial⟩
theorem rul_848 : Rul r_848 := by
  refine ⟨fun _ ρ M hm hB hF hG => ?_, fun gi gv hg => (by cases hg)⟩
  have H := cr_848 M (ρ 0) (ρ 1) (ρ 2) (ρ 3) (hB _ List.mem_cons_self) (hB _ (List.mem_cons_of_mem _ List.mem_cons_self)) (hB _ (List.mem_cons_of_mem _ (List.mem_cons_of_mem _ List.mem_cons_self))) (hB _ (List.mem_cons_of_mem _ (List.mem_cons_of_mem _ (List.mem_cons_of_mem _ List.mem_cons_self)))) (cvp 334 (x' := (0 : Int)) (y' := (0 : Int)) (by show 0 + 0 = _; omega) (by show 0 + 0 = _; omega) (hm _ List.mem_cons_self)) (cvm (c := 58) (by decide) (x' := ((ρ 0))) (y' := ((ρ 3))) (by show 0 + (1 * ρ 0 + 0) = _; omega) (by show 0 + (1 * ρ 3 + 0) = _; omega) (hm _ (List.mem_cons_of_mem _ List.mem_cons_self))) (cvm (c := 59) (by decide) (x' := (3 : Int)) (y' := ((ρ 0))) (by show 3 + 0 = _; omega) (by show 0 + (1 * ρ 0 + 0) = _; omega) (hm _ (List.mem_cons_of_mem _ (List.mem_cons_of_mem _ List.mem_cons_self)))) (cvm (c := 56) (by decide) (x' := (3 : Int)) (y' := ((ρ 1))) (by show 3 + 0 = _; omega) (by show 0 + (1 * ρ 1 + 0) = _; omega) (hm _ (List.mem_cons_of_mem _ (List.mem_cons_of_mem _ (List.mem_cons_of_mem _ List.mem_cons_self))))) (cvm (c := 57) (by decide) (x' := ((ρ 1))) (y' := ((ρ 2))) (by show 0 + (1 * ρ 1 + 0) = _; omega) (by show 0 + (1 * ρ 2 + 0) = _; omega) (hm _ (List.mem_cons_of_mem _ (List.mem_cons_of_mem _ (List.mem_cons_of_mem _ (List.mem_cons_of_mem _ List.mem_cons_self)))))) hG
  obtain ⟨f0, -⟩ := H
  exact ⟨_, List.mem_cons_self, ρ, fun _ _ => rfl, okM_n, okB_n, (okF_c (by show 0 ≤ 0 + ((-2) * ρ 2 + (1 * ρ 3 + 0)); omega) okF_n)⟩
-- gn3
theorem cr_849 (M : pM) (s0 s1 s2 : Int) (b0 : 0 ≤ s0 ∧ s0 ≤ 2) (b1 : 1 ≤ s1 ∧ s1 ≤ 3) (b2 : 0 ≤ s2 ∧ s2 ≤ 9) (m0 : HP 314 (s1) (s1) M) (m1 : (0 ≤ (3 : Int) ∧ M 59 (3 : Int).toNat = (s0))) (m2 : (0 ≤ (1 : Int) ∧ M 55 (1 : Int).toNat = (s2))) (f0 : 0 ≤ ((-1) * s0 + s1 - 1)) (f1 : 0 ≤ (s2 - 4)) (hG : gI M) : (HP 313 (s0 + 1) (s1) M ∧ True) := by
  obtain ⟨j0, T0, t1, t2, t3, t4, t5, t6, t7⟩ := Eq.mp hp_314 m0
  have hj : hrow 59 4 M 3 = s0.toNat := hrow_v (by decide) (by have h : M 59 3 = s0 := m1.2; rw [h]; omega)
  have hp : ∀ o, o < 3 → hrow 59 4 M o = hrow 59 3 M o := fun o ho => hrow_lt ho (by decide)
  have en : hnC M = s2.toNat := hnC_v (by omega) (by have h : M 55 1 = s2 := m2.2; rw [h]; omega)
  have ej : j0 = T0 := by omega
  subst ej
  exact ⟨Eq.mpr hp_313 ⟨s0.toNat + 1, j0, t1, t2, by omega, by omega, by omega, fun o ho => by rw [← hp o ho]; exact t6 o (by omega), hj_up hp hj (by omega) (by rw [en]; omega) t7⟩, trivial⟩
theorem rul_849 : Rul r_849 := by
  refine ⟨fun _ ρ M hm hB hF hG => ?_, fun gi gv hg => (by cases hg)⟩
  have H := cr_849 M (ρ 0) (ρ 1) (ρ 2) (hB _ List.mem_cons_self) (hB _ (List.mem_cons_of_mem _ List.mem_cons_self)) (hB _ (List.mem_cons_of_mem _ (List.mem_cons_of_mem _ List.mem_cons_self))) (cvp 314 (x' := ((ρ 1))) (y' := ((ρ 1))) (by show 0 + (1 * ρ 1 + 0) = _; omega) (by show 0 + (1 * ρ 1 + 0) = _; omega) (hm _ List.mem_cons_self)) (cvm (c := 59) (by decide) (x' := (3 : Int)) (y' := ((ρ 0))) (by show 3 + 0 = _; omega) (by show 0 + (1 * ρ 0 + 0) = _; omega) (hm _ (List.mem_cons_of_mem _ List.mem_cons_self))) (cvm (c := 55) (by decide) (x' := (1 : Int)) (y' := ((ρ 2))) (by show 1 + 0 = _; omega) (by show 0 + (1 * ρ 2 + 0) = _; omega) (hm _ (List.mem_cons_of_mem _ (List.mem_cons_of_mem _ List.mem_cons_self)))) (by have h := hF _ List.mem_cons_self; have h : 0 ≤ (-1) + ((-1) * ρ 0 + (1 * ρ 1 + 0)) := h; omega) (by have h := hF _ (List.mem_cons_of_mem _ List.mem_cons_self); have h : 0 ≤ (-4) + (1 * ρ 2 + 0) := h; omega) hG
  obtain ⟨k0, -⟩ := H
  exact ⟨_, List.mem_cons_self, ρ, fun _ _ => rfl, (okM_c (pvp 313 (by show 1 + (1 * ρ 0 + 0) = _; omega) (by show 0 + (1 * ρ 1 + 0) = _; omega) k0) okM_n), okB_n, okF_n⟩
-- ge3
theorem cr_850 (M : pM) (s0 s1 s2 s3 s4 : Int) (b0 : 0 ≤ s0 ∧ s0 ≤ 2) (b1 : 1 ≤ s1 ∧ s1 ≤ 3) (b2 : 0 ≤ s2 ∧ s2 ≤ 35640) (b3 : 0 ≤ s3 ∧ s3 ≤ 0) (b4 : 0 ≤ s4 ∧ s4 ≤ 9) (m0 : HP 313 (s0 + 1) (s1) M) (m1 : HP 333 (0 : Int) (0 : Int) M) (m2 : (0 ≤ (s0) ∧ M 58 (s0).toNat = (s3))) (m3 : HP 323 (s0) (s2) M) (m4 : (0 ≤ (1 : Int) ∧ M 55 (1 : Int).toNat = (s4))) (f0 : 0 ≤ (s4 - 4)) (f1 : 0 ≤ ((-1) * s0 + s1 - 1)) (hG : gI M) : (HP 313 (s1) (s1) M ∧ True) := by
  obtain ⟨j0, T0, t1, t2, t3, t4, t5, t6, t7⟩ := Eq.mp hp_313 m0
  obtain ⟨j1, x1, x2, x3⟩ := Eq.mp hp_323 m3
  have en : hnC M = s4.toNat := hnC_v (by omega) (by have h : M 55 1 = s4 := m4.2; rw [h]; omega)
  have ej : j1 = s0.toNat := by omega
  subst ej
  have ek : j0 = s0.toNat + 1 := by omega
  subst ek
  have k1 := (Eq.mp hp_333 m1) s0.toNat (by omega)
  rw [m2.2] at k1
  exact ⟨Eq.mpr hp_313 ⟨T0, T0, t1, t2, Nat.le_refl _, by omega, by omega, t6, hj_sw (by rw [en]; omega) (by omega) t2 t7 x3 (by omega)⟩, trivial⟩
theorem rul_850 : Rul r_850 := by
  refine ⟨fun _ ρ M hm hB hF hG => ?_, fun gi gv hg => (by cases hg)⟩
  have H := cr_850 M (ρ 0) (ρ 1) (ρ 2) (ρ 3) (ρ 4) (hB _ List.mem_cons_self) (hB _ (List.mem_cons_of_mem _ List.mem_cons_self)) (hB _ (List.mem_cons_of_mem _ (List.mem_cons_of_mem _ List.mem_cons_self))) (hB _ (List.mem_cons_of_mem _ (List.mem_cons_of_mem _ (List.mem_cons_of_mem _ List.mem_cons_self)))) (hB _ (List.mem_cons_of_mem _ (List.mem_cons_of_mem _ (List.mem_cons_of_mem _ (List.mem_cons_of_mem _ List.mem_cons_self))))) (cvp 313 (x' := ((ρ 0) + 1)) (y' := ((ρ 1))) (by show 1 + (1 * ρ 0 + 0) = _; omega) (by show 0 + (1 * ρ 1 + 0) = _; omega) (hm _ List.mem_cons_self)) (cvp 333 (x' := (0 : Int)) (y' := (0 : Int)) (by show 0 + 0 = _; omega) (by show 0 + 0 = _; omega) (hm _ (List.mem_cons_of_mem _ List.mem_cons_self))) (cvm (c := 58) (by decide) (x' := ((ρ 0))) (y' := ((ρ 3))) (by show 0 + (1 * ρ 0 + 0) = _; omega) (by show 0 + (1 * ρ 3 + 0) = _; omega) (hm _ (List.mem_cons_of_mem _ (List.mem_cons_of_mem _ List.mem_cons_self)))) (cvp 323 (x' := ((ρ 0))) (y' := ((ρ 2))) (by show 0 + (1 * ρ 0 + 0) = _; omega) (by show 0 + (1 * ρ 2 + 0) = _; omega) (hm _ (List.mem_cons_of_mem _ (List.mem_cons_of_mem _ (List.mem_cons_of_mem _ List.mem_cons_self))))) (cvm (c := 55) (by decide) (x' := (1 : Int)) (y' := ((ρ 4))) (by show 1 + 0 = _; omega) (by show 0 + (1 * ρ 4 + 0) = _; omega) (hm _ (List.mem_cons_of_mem _ (List.mem_cons_of_mem _ (List.mem_cons_of_mem _ (List.mem_cons_of_mem _ List.mem_cons_self)))))) (by have h := hF _ List.mem_cons_self; have h : 0 ≤ (-4) + (1 * ρ 4 + 0) := h; omega) (by have h := hF _ (List.mem_cons_of_mem _ List.mem_cons_self); have h : 0 ≤ (-1) + ((-1) * ρ 0 + (1 * ρ 1 + 0)) := h; omega) hG
  obtain ⟨k0, -⟩ := H
  exact ⟨_, List.mem_cons_self, ρ, fun _ _ => rfl, (okM_c (pvp 313 (by show 0 + (1 * ρ 1 + 0) = _; omega) (by show 0 + (1 * ρ 1 + 0) = _; omega) k0) okM_n), okB_n, okF_n⟩
-- gz3
theorem cr_851 (M : pM) (s0 s1 s2 : Int) (b0 : 0 ≤ s0 ∧ s0 ≤ 2) (b1 : 0 ≤ s1 ∧ s1 ≤ 35640) (b2 : (-2147483648) ≤ s2 ∧ s2 ≤ 2147483647) (m0 : HP 323 (s0) (s1) M) (m1 : HP 333 (0 : Int) (0 : Int) M) (m2 : (0 ≤ (s0) ∧ M 58 (s0).toNat = (s2))) (f0 : 0 ≤ (s2 - 1)) (hG : gI M) : (HP 323 (s0 + 1) (s1) M ∧ True) := by
  obtain ⟨j1, x1, x2, x3⟩ := Eq.mp hp_323 m0
  have ej : j1 = s0.toNat := by omega
  subst ej
  have k1 := (Eq.mp hp_333 m1) s0.toNat (by omega)
  rw [m2.2] at k1
  exact ⟨Eq.mpr hp_323 ⟨s0.toNat + 1, by omega, by omega, mx_z x3 (by omega)⟩, trivial⟩
theorem rul_851 : Rul r_851 := by
  refine ⟨fun _ ρ M hm hB hF hG => ?_, fun gi gv hg => (by cases hg)⟩
  have H := cr_851 M (ρ 0) (ρ 1) (ρ 2) (hB _ List.mem_cons_self) (hB _ (List.mem_cons_of_mem _ List.mem_cons_self)) (hB _ (List.mem_cons_of_mem _ (List.mem_cons_of_mem _ List.mem_cons_self))) (cvp 323 (x' := ((ρ 0))) (y' := ((ρ 1))) (by show 0 + (1 * ρ 0 + 0) = _; omega) (by show 0 + (1 * ρ 1 + 0) = _; omega) (hm _ List.mem_cons_self)) (cvp 333 (x' := (0 : Int)) (y' := (0 : Int)) (by show 0 + 0 = _; omega) (by show 0 + 0 = _; omega) (hm _ (List.mem_cons_of_mem _ List.mem_cons_self))) (cvm (c := 58) (by decide) (x' := ((ρ 0))) (y' := ((ρ 2))) (by show 0 + (1 * ρ 0 + 0) = _; omega) (by show 0 + (1 * ρ 2 + 0) = _; omega) (hm _ (List.mem_cons_of_mem _ (List.mem_cons_of_mem _ List.mem_cons_self)))) (by have h := hF _ List.mem_cons_self; have h : 0 ≤ (-1) + (1 * ρ 2 + 0) := h; omega) hG
  obtain ⟨k0, -⟩ := H
  exact ⟨_, List.mem_cons_self, ρ, fun _ _ => rfl, (okM_c (pvp 323 (by show 1 + (1 * ρ 0 + 0) = _; omega) (by show 0 + (1 * ρ 1 + 0) = _; omega) k0) okM_n), okB_n, okF_n⟩
-- gf3
theorem cr_852 (M : pM) (s0 s1 : Int) (b0 : 0 ≤ s0 ∧ s0 ≤ 3) (b1 : 1 ≤ s1 ∧ s1 ≤ 3) (m0 : HP 313 (s0) (s1) M) (f0 : 0 ≤ (s0 + (-1) * s1)) (f1 : 0 ≤ ((-1) * s0 + s1)) (hG : gI M) : (HP 313 (s1) (s1) M ∧ True) := by
  obtain ⟨j0, T0, t1, t2, t3, t4, t5, t6, t7⟩ := Eq.mp hp_313 m0
  have ej : j0 = T0 := by omega
  subst ej
  exact ⟨Eq.mpr hp_313 ⟨j0, j0, t1, t2, Nat.le_refl _, by omega, by omega, t6, t7⟩, trivial⟩
theorem rul_852 : Rul r_852 := by
  refine ⟨fun _ ρ M hm hB hF hG => ?_, fun gi gv hg => (by cases hg)⟩
  have H := cr_852 M (ρ 0) (ρ 1) (hB _ List.mem_cons_self) (hB _ (List.mem_cons_of_mem _ List.mem_cons_self)) (cvp 313 (x' := ((ρ 0))) (y' := ((ρ 1))) (by show 0 + (1 * ρ 0 + 0) = _; omega) (by show 0 + (1 * ρ 1 + 0) = _; omega) (hm _ List.mem_cons_self)) (by have h := hF _ List.mem_cons_self; have h : 0 ≤ 0 + (1 * ρ 0 + ((-1) * ρ 1 + 0)) := h; omega) (by have h := hF _ (List.mem_cons_of_mem _ List.mem_cons_self); have h : 0 ≤ 0 + ((-1) * ρ 0 + (1 * ρ 1 + 0)) := h; omega) hG
  obtain ⟨k0, -⟩ := H
  exact ⟨_, List.mem_cons_self, ρ, fun _ _ => rfl, (okM_c (pvp 313 (by show 0 + (1 * ρ 1 + 0) = _; omega) (by show 0 + (1 * ρ 1 + 0) = _; omega) k0) okM_n), okB_n, okF_n⟩
-- gb3
theorem cr_853 (M : pM) (s0 s1 s2 : Int) (b0 : 0 ≤ s0 ∧ s0 ≤ 35640) (b1 : 0 ≤ s1 ∧ s1 ≤ 3) (b2 : 0 ≤ s2 ∧ s2 ≤ 9) (m0 : HP 323 (s1) (s0) M) (m1 : HP 342 (s2) (0 : Int) M) (f0 : 0 ≤ (s2 - 3)) (hG : gI M) : (0 ≤ ((-1) * s0 + 11880) ∧ True) := by
  obtain ⟨j1, x1, x2, x3⟩ := Eq.mp hp_323 m0
  obtain ⟨h1, h2, h3⟩ := Eq.mp hp_342 m1
  obtain ⟨a, a1, a2⟩ := x3.2.1
  have k := hps_b (m := hmC M) (t := (hrow 59 3 M)) (a := a) (K := 3960) (by decide) (g := 3) (fun o ho => h3 o (by omega))
  rw [a2] at k
  exact ⟨by omega, trivial⟩
theorem rul_853 : Rul r_853 := by
  refine ⟨fun _ ρ M hm hB hF hG => ?_, fun gi gv hg => (by cases hg)⟩
  have H := cr_853 M (ρ 0) (ρ 1) (ρ 2) (hB _ List.mem_cons_self) (hB _ (List.mem_cons_of_mem _ List.mem_cons_self)) (hB _ (List.mem_cons_of_mem _ (List.mem_cons_of_mem _ List.mem_cons_self))) (cvp 323 (x' := ((ρ 1))) (y' := ((ρ 0))) (by show 0 + (1 * ρ 1 + 0) = _; omega) (by show 0 + (1 * ρ 0 + 0) = _; omega) (hm _ List.mem_cons_self)) (cvp 342 (x' := ((ρ 2))) (y' := (0 : Int)) (by show 0 + (1 * ρ 2 + 0) = _; omega) (by show 0 + 0 = _; omega) (hm _ (List.mem_cons_of_mem _ List.mem_cons_self))) (by have h := hF _ List.mem_cons_self; have h : 0 ≤ (-3) + (1 * ρ 2 + 0) := h; omega) hG
  obtain ⟨f0, -⟩ := H
  exact ⟨_, List.mem_cons_self, ρ, fun _ _ => rfl, okM_n, okB_n, (okF_c (by show 0 ≤ 11880 + ((-1) * ρ 0 + 0); omega) okF_n)⟩
-- gpr4
theorem cr_854 (M : pM) (s0 s1 s2 s3 : Int) (b0 : 1 ≤ s0 ∧ s0 ≤ 3) (b1 : 0 ≤ s1 ∧ s1 ≤ 35640) (b2 : 0 ≤ s2 ∧ s2 ≤ 9) (b3 : 0 ≤ s3 ∧ s3 ≤ 1000000) (m0 : HP 314 (0 : Int) (s0) M) (m1 : HP 324 (0 : Int) (s1) M) (m2 : (0 ≤ (1 : Int) ∧ M 55 (1 : Int).toNat = (s2))) (m3 : (0 ≤ (6 : Int) ∧ M 55 (6 : Int).toNat = (s3))) (f0 : 0 ≤ (s1 + (-1) * s3)) (f1 : 0 ≤ (s2 - 4)) (hG : gI M) : (HP 314 (s0) (s0) M ∧ True) := by
  obtain ⟨j0, T0, t1, t2, t3, t4, t5, t6, t7⟩ := Eq.mp hp_314 m0
  obtain ⟨j1, x1, x2, x3⟩ := Eq.mp hp_324 m1
  have en : hnC M = s2.toNat := hnC_v (by omega) (by have h : M 55 1 = s2 := m2.2; rw [h]; omega)
  have eb : M 55 6 = s3 := m3.2
  have ej : j0 = 0 := by omega
  subst ej
  exact ⟨Eq.mpr hp_314 ⟨T0, T0, t1, t2, Nat.le_refl _, by omega, by omega, t6, hj_pr (hmC_0 hG) (by rw [en]; omega) t7 x3 (by rw [eb]; omega)⟩, trivial⟩
theorem rul_854 : Rul r_854 := by
  refine ⟨fun _ ρ M hm hB hF hG => ?_, fun gi gv hg => (by cases hg)⟩
  have H := cr_854 M (ρ 0) (ρ 1) (ρ 2) (ρ 3) (hB _ List.mem_cons_self) (hB _ (List.mem_cons_of_mem _ List.mem_cons_self)) (hB _ (List.mem_cons_of_mem _ (List.mem_cons_of_mem _ List.mem_cons_self))) (hB _ (List.mem_cons_of_mem _ (List.mem_cons_of_mem _ (List.mem_cons_of_mem _ List.mem_cons_self)))) (cvp 314 (x' := (0 : Int)) (y' := ((ρ 0))) (by show 0 + 0 = _; omega) (by show 0 + (1 * ρ 0 + 0) = _; omega) (hm _ List.mem_cons_self)) (cvp 324 (x' := (0 : Int)) (y' := ((ρ 1))) (by show 0 + 0 = _; omega) (by show 0 + (1 * ρ 1 + 0) = _; omega) (hm _ (List.mem_cons_of_mem _ List.mem_cons_self))) (cvm (c := 55) (by decide) (x' := (1 : Int)) (y' := ((ρ 2))) (by show 1 + 0 = _; omega) (by show 0 + (1 * ρ 2 + 0) = _; omega) (hm _ (List.mem_cons_of_mem _ (List.mem_cons_of_mem _ List.mem_cons_self)))) (cvm (c := 55) (by decide) (x' := (6 : Int)) (y' := ((ρ 3))) (by show 6 + 0 = _; omega) (by show 0 + (1 * ρ 3 + 0) = _; omega) (hm _ (List.mem_cons_of_mem _ (List.mem_cons_of_mem _ (List.mem_cons_of_mem _ List.mem_cons_self))))) (by have h := hF _ List.mem_cons_self; have h : 0 ≤ 0 + (1 * ρ 1 + ((-1) * ρ 3 + 0)) := h; omega) (by have h := hF _ (List.mem_cons_of_mem _ List.mem_cons_self); have h : 0 ≤ (-4) + (1 * ρ 2 + 0) := h; omega) hG
  obtain ⟨k0, -⟩ := H
  exact ⟨_, List.mem_cons_self, ρ, fun _ _ => rfl, (okM_c (pvp 314 (by show 0 + (1 * ρ 0 + 0) = _; omega) (by show 0 + (1 * ρ 0 + 0) = _; omega) k0) okM_n), okB_n, okF_n⟩
-- glf4
theorem cr_855 (M : pM) (s0 s1 s2 s3 : Int) (b0 : 1 ≤ s0 ∧ s0 ≤ 3) (b1 : 0 ≤ s1 ∧ s1 ≤ 35640) (b2 : 0 ≤ s2 ∧ s2 ≤ 9) (b3 : 0 ≤ s3 ∧ s3 ≤ 1000000) (m0 : HP 314 (0 : Int) (s0) M) (m1 : HP 324 (0 : Int) (s1) M) (m2 : (0 ≤ (1 : Int) ∧ M 55 (1 : Int).toNat = (s2))) (m3 : (0 ≤ (6 : Int) ∧ M 55 (6 : Int).toNat = (s3))) (f0 : 0 ≤ ((-1) * s1 + s3 - 1)) (f1 : 0 ≤ ((-1) * s2 + 4)) (f2 : 0 ≤ (s2 - 4)) (hG : gI M) : (HP 340 (s1) (s0) M ∧ True) := by
  obtain ⟨j0, T0, t1, t2, t3, t4, t5, t6, t7⟩ := Eq.mp hp_314 m0
  obtain ⟨j1, x1, x2, x3⟩ := Eq.mp hp_324 m1
  have en : hnC M = s2.toNat := hnC_v (by omega) (by have h : M 55 1 = s2 := m2.2; rw [h]; omega)
  have eb : M 55 6 = s3 := m3.2
  have ej : j0 = 0 := by omega
  subst ej
  have en2 : hnC M = 4 := by rw [en]; omega
  rw [en2] at t7
  obtain ⟨k1, k2⟩ := hj_lf t7 x3 (by rw [eb]; omega)
  exact ⟨Eq.mpr hp_340 ⟨T0, t1, t2, by omega, by rw [en2]; exact fun o ho => by rw [hrow_lt ho (by decide)]; exact t6 o ho, by rw [en2]; exact (hco_c (fun o ho => hrow_lt ho (by decide))).trans k1, by rw [en2]; exact fun t ht hl => k2 t ht (hlx_c hl (fun o ho => hrow_lt ho (by decide)))⟩, trivial⟩
theorem rul_855 : Rul r_855 := by
  refine ⟨fun _ ρ M hm hB hF hG => ?_, fun gi gv hg => (by cases hg)⟩
  have H := cr_855 M (ρ 0) (ρ 1) (ρ 2) (ρ 3) (hB _ List.mem_cons_self) (hB _ (List.mem_cons_of_mem _ List.mem_cons_self)) (hB _ (List.mem_cons_of_mem _ (List.mem_cons_of_mem _ List.mem_cons_self))) (hB _ (List.mem_cons_of_mem _ (List.mem_cons_of_mem _ (List.mem_cons_of_mem _ List.mem_cons_self)))) (cvp 314 (x' := (0 : Int)) (y' := ((ρ 0))) (by show 0 + 0 = _; omega) (by show 0 + (1 * ρ 0 + 0) = _; omega) (hm _ List.mem_cons_self)) (cvp 324 (x' := (0 : Int)) (y' := ((ρ 1))) (by show 0 + 0 = _; omega) (by show 0 + (1 * ρ 1 + 0) = _; omega) (hm _ (List.mem_cons_of_mem _ List.mem_cons_self))) (cvm (c := 55) (by decide) (x' := (1 : Int)) (y' := ((ρ 2))) (by show 1 + 0 = _; omega) (by show 0 + (1 * ρ 2 + 0) = _; omega) (hm _ (List.mem_cons_of_mem _ (List.mem_cons_of_mem _ List.mem_cons_self)))) (cvm (c := 55) (by decide) (x' := (6 : Int)) (y' := ((ρ 3))) (by show 6 + 0 = _; omega) (by show 0 + (1 * ρ 3 + 0) = _; omega) (hm _ (List.mem_cons_of_mem _ (List.mem_cons_of_mem _ (List.mem_cons_of_mem _ List.mem_cons_self))))) (by have h := hF _ List.mem_cons_self; have h : 0 ≤ (-1) + ((-1) * ρ 1 + (1 * ρ 3 + 0)) := h; omega) (by have h := hF _ (List.mem_cons_of_mem _ List.mem_cons_self); have h : 0 ≤ 4 + ((-1) * ρ 2 + 0) := h; omega) (by have h := hF _ (List.mem_cons_of_mem _ (List.mem_cons_of_mem _ List.mem_cons_self)); have h : 0 ≤ (-4) + (1 * ρ 2 + 0) := h; omega) hG
  obtain ⟨k0, -⟩ := H
  exact ⟨_, List.mem_cons_self, ρ, fun _ _ => rfl, (okM_c (pvp 340 (by show 0 + (1 * ρ 1 + 0) = _; omega) (by show 0 + (1 * ρ 0 + 0) = _; omega) k0) okM_n), okB_n, okF_n⟩
-- glx4
theorem cr_856 (M : pM) (s0 s1 s2 s3 : Int) (b0 : 1 ≤ s0 ∧ s0 ≤ 3) (b1 : 0 ≤ s1 ∧ s1 ≤ 35640) (b2 : 0 ≤ s2 ∧ s2 ≤ 9) (b3 : 0 ≤ s3 ∧ s3 ≤ 1000000) (m0 : HP 340 (s1) (s0) M) (m1 : HP 341 (s2) (0 : Int) M) (m2 : (0 ≤ (1 : Int) ∧ M 55 (1 : Int).toNat = (s2))) (m3 : (0 ≤ (6 : Int) ∧ M 55 (6 : Int).toNat = (s3))) (f0 : 0 ≤ ((-1) * s2 + 4)) (f1 : 0 ≤ (s2 - 4)) (f2 : 0 ≤ (s1 + (-1) * s3)) (f3 : 0 ≤ ((-1) * s1 + s3)) (hG : gI M) : (HP 314 (s0) (s0) M ∧ True) := by
  obtain ⟨T0, q1, q2, q3, q4, q5, q6⟩ := Eq.mp hp_340 m0
  have c2 := Eq.mp hp_341 m1
  have en : hnC M = s2.toNat := hnC_v (by omega) (by have h : M 55 1 = s2 := m2.2; rw [h]; omega)
  have eb : M 55 6 = s3 := m3.2
  have en2 : hnC M = 4 := by rw [en]; omega
  rw [en2] at q4 q5 q6
  exact ⟨Eq.mpr hp_314 ⟨T0, T0, q1, q2, Nat.le_refl _, by omega, by omega, fun o ho => by rw [← hrow_lt (k := 9) ho (by decide)]; exact q4 o ho, by
      rw [en2]
      exact hj_le (q := hrow 59 9 M) (fun o ho => hrow_lt ho (by decide)) (fun o ho => hrow_e (by omega) (c2 o (by omega) (by omega))) q4 (q5.trans (by rw [eb]; omega)) (fun t ht hl => by have := q6 t ht hl; rw [eb]; omega)⟩, trivial⟩
theorem rul_856 : Rul r_856 := by
  refine ⟨fun _ ρ M hm hB hF hG => ?_, fun gi gv hg => (by cases hg)⟩
  have H := cr_856 M (ρ 0) (ρ 1) (ρ 2) (ρ 3) (hB _ List.mem_cons_self) (hB _ (List.mem_cons_of_mem _ List.mem_cons_self)) (hB _ (List.mem_cons_of_mem _ (List.mem_cons_of_mem _ List.mem_cons_self))) (hB _ (List.mem_cons_of_mem _ (List.mem_cons_of_mem _ (List.mem_cons_of_mem _ List.mem_cons_self)))) (cvp 340 (x' := ((ρ 1))) (y' := ((ρ 0))) (by show 0 + (1 * ρ 1 + 0) = _; omega) (by show 0 + (1 * ρ 0 + 0) = _; omega) (hm _ List.mem_cons_self)) (cvp 341 (x' := ((ρ 2))) (y' := (0 : Int)) (by show 0 + (1 * ρ 2 + 0) = _; omega) (by show 0 + 0 = _; omega) (hm _ (List.mem_cons_of_mem _ List.mem_cons_self))) (cvm (c := 55) (by decide) (x' := (1 : Int)) (y' := ((ρ 2))) (by show 1 + 0 = _; omega) (by show 0 + (1 * ρ 2 + 0) = _; omega) (hm _ (List.mem_cons_of_mem _ (List.mem_cons_of_mem _ List.mem_cons_self)))) (cvm (c := 55) (by decide) (x' := (6 : Int)) (y' := ((ρ 3))) (by show 6 + 0 = _; omega) (by show 0 + (1 * ρ 3 + 0) = _; omega) (hm _ (List.mem_cons_of_mem _ (List.mem_cons_of_mem _ (List.mem_cons_of_mem _ List.mem_cons_self))))) (by have h := hF _ List.mem_cons_self; have h : 0 ≤ 4 + ((-1) * ρ 2 + 0) := h; omega) (by have h := hF _ (List.mem_cons_of_mem _ List.mem_cons_self); have h : 0 ≤ (-4) + (1 * ρ 2 + 0) := h; omega) (by have h := hF _ (List.mem_cons_of_mem _ (List.mem_cons_of_mem _ List.mem_cons_self)); have h : 0 ≤ 0 + (1 * ρ 1 + ((-1) * ρ 3 + 0)) := h; omega) (by have h := hF _ (List.mem_cons_of_mem _ (List.mem_cons_of_mem _ (List.mem_cons_of_mem _ List.mem_cons_self))); have h : 0 ≤ 0 + ((-1) * ρ 1 + (1 * ρ 3 + 0)) := h; omega) hG
  obtain ⟨k0, -⟩ := H
  exact ⟨_, List.mem_cons_self, ρ, fun _ _ => rfl, (okM_c (pvp 314 (by show 0 + (1 * ρ 0 + 0) = _; omega) (by show 0 + (1 * ρ 0 + 0) = _; omega) k0) okM_n), okB_n, okF_n⟩
-- gh4
theorem cr_857 (M : pM) (s0 s1 s2 : Int) (b0 : 0 ≤ s0 ∧ s0 ≤ 2) (b1 : 1 ≤ s1 ∧ s1 ≤ 3) (b2 : 0 ≤ s2 ∧ s2 ≤ 9) (m0 : HP 314 (s0) (s1) M) (m1 : (0 ≤ (4 : Int) ∧ M 59 (4 : Int).toNat = (s0))) (m2 : (0 ≤ (1 : Int) ∧ M 55 (1 : Int).toNat = (s2))) (f0 : 0 ≤ ((-1) * s0 + s1 - 1)) (f1 : 0 ≤ (s2 - 5)) (hG : gI M) : (HP 315 (0 : Int) (s1) M ∧ True) := by
  obtain ⟨j0, T0, t1, t2, t3, t4, t5, t6, t7⟩ := Eq.mp hp_314 m0
  have hj : hrow 59 5 M 4 = s0.toNat := hrow_v (by decide) (by have h : M 59 4 = s0 := m1.2; rw [h]; omega)
  have hp : ∀ o, o < 4 → hrow 59 5 M o = hrow 59 4 M o := fun o ho => hrow_lt ho (by decide)
  have en : hnC M = s2.toNat := hnC_v (by omega) (by have h : M 55 1 = s2 := m2.2; rw [h]; omega)
  have ej : j0 = s0.toNat := by omega
  subst ej
  exact ⟨Eq.mpr hp_315 ⟨0, T0, t1, t2, by omega, by omega, by omega, fun o ho => by
      by_cases e : o = 4
      · rw [e, hj]; omega
      · rw [hp o (by omega)]; exact t6 o (by omega), hj_dn t1 hp hj (by omega) t7⟩, trivial⟩
theorem rul_857 : Rul r_857 := by
  refine ⟨fun _ ρ M hm hB hF hG => ?_, fun gi gv hg => (by cases hg)⟩
  have H := cr_857 M (ρ 0) (ρ 1) (ρ 2) (hB _ List.mem_cons_self) (hB _ (List.mem_cons_of_mem _ List.mem_cons_self)) (hB _ (List.mem_cons_of_mem _ (List.mem_cons_of_mem _ List.mem_cons_self))) (cvp 314 (x' := ((ρ 0))) (y' := ((ρ 1))) (by show 0 + (1 * ρ 0 + 0) = _; omega) (by show 0 + (1 * ρ 1 + 0) = _; omega) (hm _ List.mem_cons_self)) (cvm (c := 59) (by decide) (x' := (4 : Int)) (y' := ((ρ 0))) (by show 4 + 0 = _; omega) (by show 0 + (1 * ρ 0 + 0) = _; omega) (hm _ (List.mem_cons_of_mem _ List.mem_cons_self))) (cvm (c := 55) (by decide) (x' := (1 : Int)) (y' := ((ρ 2))) (by show 1 + 0 = _; omega) (by show 0 + (1 * ρ 2 + 0) = _; omega) (hm _ (List.mem_cons_of_mem _ (List.mem_cons_of_mem _ List.mem_cons_self)))) (by have h := hF _ List.mem_cons_self; have h : 0 ≤ (-1) + ((-1) * ρ 0 + (1 * ρ 1 + 0)) := h; omega) (by have h := hF _ (List.mem_cons_of_mem _ List.mem_cons_self); have h : 0 ≤ (-5) + (1 * ρ 2 + 0) := h; omega) hG
  obtain ⟨k0, -⟩ := H
  exact ⟨_, List.mem_cons_self, ρ, fun _ _ => rfl, (okM_c (pvp 315 (by show 0 + 0 = _; omega) (by show 0 + (1 * ρ 1 + 0) = _; omega) k0) okM_n), okB_n, okF_n⟩
-- gld4
theorem cr_858 (M : pM) (s0 s1 s2 s3 : Int) (b0 : 0 ≤ s0 ∧ s0 ≤ 2) (b1 : (-2147483648) ≤ s1 ∧ s1 ≤ 2147483647) (b2 : 0 ≤ s2 ∧ s2 ≤ 3) (b3 : 0 ≤ s3 ∧ s3 ≤ 35640) (m0 : HP 334 (0 : Int) (0 : Int) M) (m1 : (0 ≤ (s0) ∧ M 58 (s0).toNat = (s1))) (m2 : HP 324 (s2) (s3) M) (hG : gI M) : (0 ≤ (s1) ∧ 0 ≤ ((-1) * s1 + s3) ∧ True) := by
  obtain ⟨j1, x1, x2, x3⟩ := Eq.mp hp_324 m2
  have k1 := (Eq.mp hp_334 m0) s0.toNat (by omega)
  rw [m1.2] at k1
  have k2 := hps_0 (t := (hrow 59 4 M)) (a := s0.toNat) (hmC_0 hG) 4
  have k3 := x3.1 s0.toNat (by omega)
  exact ⟨by omega, by omega, trivial⟩
theorem rul_858 : Rul r_858 := by
  refine ⟨fun _ ρ M hm hB hF hG => ?_, fun gi gv hg => (by cases hg)⟩
  have H := cr_858 M (ρ 0) (ρ 1) (ρ 2) (ρ 3) (hB _ List.mem_cons_self) (hB _ (List.mem_cons_of_mem _ List.mem_cons_self)) (hB _ (List.mem_cons_of_mem _ (List.mem_cons_of_mem _ List.mem_cons_self))) (hB _ (List.mem_cons_of_mem _ (List.mem_cons_of_mem _ (List.mem_cons_of_mem _ List.mem_cons_self)))) (cvp 334 (x' := (0 : Int)) (y' := (0 : Int)) (by show 0 + 0 = _; omega) (by show 0 + 0 = _; omega) (hm _ List.mem_cons_self)) (cvm (c := 58) (by decide) (x' := ((ρ 0))) (y' := ((ρ 1))) (by show 0 + (1 * ρ 0 + 0) = _; omega) (by show 0 + (1 * ρ 1 + 0) = _; omega) (hm _ (List.mem_cons_of_mem _ List.mem_cons_self))) (cvp 324 (x' := ((ρ 2))) (y' := ((ρ 3))) (by show 0 + (1 * ρ 2 + 0) = _; omega) (by show 0 + (1 * ρ 3 + 0) = _; omega) (hm _ (List.mem_cons_of_mem _ (List.mem_cons_of_mem _ List.mem_cons_self)))) hG
  obtain ⟨f0, f1, -⟩ := H
  exact ⟨_, List.mem_cons_self, ρ, fun _ _ => rfl, okM_n, okB_n, (okF_c (by show 0 ≤ 0 + (1 * ρ 1 + 0); omega) (okF_c (by show 0 ≤ 0 + ((-1) * ρ 1 + (1 * ρ 3 + 0)); omega) okF_n))⟩
-- gl4
theorem cr_859 (M : pM) (s0 s1 s2 s3 : Int) (b0 : 0 ≤ s0 ∧ s0 ≤ 2) (b1 : 0 ≤ s1 ∧ s1 ≤ 63) (b2 : 0 ≤ s2 ∧ s2 ≤ 1980) (b3 : 0 ≤ s3 ∧ s3 ≤ 35640) (m0 : HP 334 (0 : Int) (0 : Int) M) (m1 : (0 ≤ (s0) ∧ M 58 (s0).toNat = (s3))) (m2 : (0 ≤ (4 : Int) ∧ M 59 (4 : Int).toNat = (s0))) (m3 : (0 ≤ (4 : Int) ∧ M 56 (4 : Int).toNat = (s1))) (m4 : (0 ≤ (s1) ∧ M 57 (s1).toNat = (s2))) (hG : gI M) : (HP 335 (0 : Int) (0 : Int) (st M 58 (s0).toNat (2 * s2 + s3)) ∧ True) := by
  have hj : hrow 59 5 M 4 = s0.toNat := hrow_v (by decide) (by have h : M 59 4 = s0 := m2.2; rw [h]; omega)
  have hp : ∀ o, o < 4 → hrow 59 5 M o = hrow 59 4 M o := fun o ho => hrow_lt ho (by decide)
  have hz : 2 * s2 = hmC M 4 := (hmC_v (o := 4) (c := s1.toNat) (by decide) (by omega) (by have h : M 56 4 = s1 := m3.2; rw [h]; omega) m4.2).symm
  have hl := Eq.mp hp_334 m0
  refine ⟨Eq.mpr hp_335 (fun a ha => ?_), trivial⟩
  rw [hmC_st (by decide) (by decide), hrow_st (by decide)]
  exact ld_u (R := fun a => M 58 a) (R' := fun a => st M 58 (s0).toNat (2 * s2 + s3) 58 a) hp hj hl (fun a ha => by
      show st M 58 (s0).toNat (2 * s2 + s3) 58 a = if a = s0.toNat then M 58 s0.toNat + 2 * s2 else M 58 a
      rw [hst_v]
      by_cases e : a = s0.toNat
      · rw [if_pos e, if_pos e, m1.2]; omega
      · rw [if_neg e, if_neg e]) hz (by omega) a ha
theorem rul_859 : Rul r_859 := by
  refine ⟨fun h => (by cases h), fun gi gv hg ρ M hm hB hF hG => ?_⟩
  obtain ⟨g1, g2⟩ := List.cons.inj (show ([aI ((0 : Int), ([(0, 1)] : List (Nat × Int))), aI ((0 : Int), ([(2, 2), (3, 1)] : List (Nat × Int)))] : List av) = [.inl gi, .inl gv] from hg)
  obtain ⟨g2, -⟩ := List.cons.inj g2
  cases g1
  cases g2
  have ei : ev ρ ((0 : Int), ([(0, 1)] : List (Nat × Int))) = ((ρ 0)) := by show 0 + (1 * ρ 0 + 0) = _; omega
  have ew : ev ρ ((0 : Int), ([(2, 2), (3, 1)] : List (Nat × Int))) = (2 * (ρ 2) + (ρ 3)) := by show 0 + (2 * ρ 2 + (1 * ρ 3 + 0)) = _; omega
  rw [show (st M (ctj r_859) (ev ρ ((0 : Int), ([(0, 1)] : List (Nat × Int)))).toNat (ev ρ ((0 : Int), ([(2, 2), (3, 1)] : List (Nat × Int))))) = (st M 58 ((ρ 0)).toNat (2 * (ρ 2) + (ρ 3))) from by rw [ei, ew]; rfl]
  have H := cr_859 M (ρ 0) (ρ 1) (ρ 2) (ρ 3) (hB _ List.mem_cons_self) (hB _ (List.mem_cons_of_mem _ List.mem_cons_self)) (hB _ (List.mem_cons_of_mem _ (List.mem_cons_of_mem _ List.mem_cons_self))) (hB _ (List.mem_cons_of_mem _ (List.mem_cons_of_mem _ (List.mem_cons_of_mem _ List.mem_cons_self)))) (cvp 334 (x' := (0 : Int)) (y' := (0 : Int)) (by show 0 + 0 = _; omega) (by show 0 + 0 = _; omega) (hm _ List.mem_cons_self)) (cvm (c := 58) (by decide) (x' := ((ρ 0))) (y' := ((ρ 3))) (by show 0 + (1 * ρ 0 + 0) = _; omega) (by show 0 + (1 * ρ 3 + 0) = _; omega) (hm _ (List.mem_cons_of_mem _ List.mem_cons_self))) (cvm (c := 59) (by decide) (x' := (4 : Int)) (y' := ((ρ 0))) (by show 4 + 0 = _; omega) (by show 0 + (1 * ρ 0 + 0) = _; omega) (hm _ (List.mem_cons_of_mem _ (List.mem_cons_of_mem _ List.mem_cons_self)))) (cvm (c := 56) (by decide) (x' := (4 : Int)) (y' := ((ρ 1))) (by show 4 + 0 = _; omega) (by show 0 + (1 * ρ 1 + 0) = _; omega) (hm _ (List.mem_cons_of_mem _ (List.mem_cons_of_mem _ (List.mem_cons_of_mem _ List.mem_cons_self))))) (cvm (c := 57) (by decide) (x' := ((ρ 1))) (y' := ((ρ 2))) (by show 0 + (1 * ρ 1 + 0) = _; omega) (by show 0 + (1 * ρ 2 + 0) = _; omega) (hm _ (List.mem_cons_of_mem _ (List.mem_cons_of_mem _ (List.mem_cons_of_mem _ (List.mem_cons_of_mem _ List.mem_cons_self)))))) hG
  obtain ⟨k0, -⟩ := H
  exact ⟨_, List.mem_cons_self, ρ, fun _ _ => rfl, (okM_c (pvp 335 (by show 0 + 0 = _; omega) (by show 0 + 0 = _; omega) k0) okM_n), okB_n, okF_n⟩
-- gm0_4
theorem cr_860 (M : pM) (s0 s1 s2 : Int) (b0 : 0 ≤ s0 ∧ s0 ≤ 2) (b1 : 0 ≤ s1 ∧ s1 ≤ 35640) (b2 : (-2147483648) ≤ s2 ∧ s2 ≤ 2147483647) (m0 : HP 324 (s0) (s1) M) (m1 : (0 ≤ (4 : Int) ∧ M 59 (4 : Int).toNat = (s0))) (m2 : HP 335 (0 : Int) (0 : Int) M) (m3 : (0 ≤ (s0) ∧ M 58 (s0).toNat = (s2))) (f0 : 0 ≤ (s1 + (-1) * s2)) (hG : gI M) : (HP 325 (0 : Int) (s1) M ∧ True) := by
  obtain ⟨j1, x1, x2, x3⟩ := Eq.mp hp_324 m0
  have hj : hrow 59 5 M 4 = s0.toNat := hrow_v (by decide) (by have h : M 59 4 = s0 := m1.2; rw [h]; omega)
  have hp : ∀ o, o < 4 → hrow 59 5 M o = hrow 59 4 M o := fun o ho => hrow_lt ho (by decide)
  have ej : j1 = s0.toNat := by omega
  subst ej
  have k1 := (Eq.mp hp_335 m2) s0.toNat (by omega)
  rw [m3.2] at k1
  have z := mx_u (hmC_0 hG) hp hj (by omega) x3 k1.symm
  rw [show max s1 s2 = s1 by omega] at z
  exact ⟨Eq.mpr hp_325 ⟨0, by omega, by omega, z⟩, trivial⟩
theorem rul_860 : Rul r_860 := by
  refine ⟨fun _ ρ M hm hB hF hG => ?_, fun gi gv hg => (by cases hg)⟩
  have H := cr_860 M (ρ 0) (ρ 1) (ρ 2) (hB _ List.mem_cons_self) (hB _ (List.mem_cons_of_mem _ List.mem_cons_self)) (hB _ (List.mem_cons_of_mem _ (List.mem_cons_of_mem _ List.mem_cons_self))) (cvp 324 (x' := ((ρ 0))) (y' := ((ρ 1))) (by show 0 + (1 * ρ 0 + 0) = _; omega) (by show 0 + (1 * ρ 1 + 0) = _; omega) (hm _ List.mem_cons_self)) (cvm (c := 59) (by decide) (x' := (4 : Int)) (y' := ((ρ 0))) (by show 4 + 0 = _; omega) (by show 0 + (1 * ρ 0 + 0) = _; omega) (hm _ (List.mem_cons_of_mem _ List.mem_cons_self))) (cvp 335 (x' := (0 : Int)) (y' := (0 : Int)) (by show 0 + 0 = _; omega) (by show 0 + 0 = _; omega) (hm _ (List.mem_cons_of_mem _ (List.mem_cons_of_mem _ List.mem_cons_self)))) (cvm (c := 58) (by decide) (x' := ((ρ 0))) (y' := ((ρ 2))) (by show 0 + (1 * ρ 0 + 0) = _; omega) (by show 0 + (1 * ρ 2 + 0) = _; omega) (hm _ (List.mem_cons_of_mem _ (List.mem_cons_of_mem _ (List.mem_cons_of_mem _ List.mem_cons_self))))) (by have h := hF _ List.mem_cons_self; have h : 0 ≤ 0 + (1 * ρ 1 + ((-1) * ρ 2 + 0)) := h; omega) hG
  obtain ⟨k0, -⟩ := H
  exact ⟨_, List.mem_cons_self, ρ, fun _ _ => rfl, (okM_c (pvp 325 (by show 0 + 0 = _; omega) (by show 0 + (1 * ρ 1 + 0) = _; omega) k0) okM_n), okB_n, okF_n⟩
-- gm1_4
theorem cr_861 (M : pM) (s0 s1 s2 : Int) (b0 : 0 ≤ s0 ∧ s0 ≤ 2) (b1 : 0 ≤ s1 ∧ s1 ≤ 35640) (b2 : (-2147483648) ≤ s2 ∧ s2 ≤ 2147483647) (m0 : HP 324 (s0) (s1) M) (m1 : (0 ≤ (4 : Int) ∧ M 59 (4 : Int).toNat = (s0))) (m2 : HP 335 (0 : Int) (0 : Int) M) (m3 : (0 ≤ (s0) ∧ M 58 (s0).toNat = (s2))) (f0 : 0 ≤ ((-1) * s1 + s2 - 1)) (hG : gI M) : (HP 325 (0 : Int) (s2) M ∧ True) := by
  obtain ⟨j1, x1, x2, x3⟩ := Eq.mp hp_324 m0
  have hj : hrow 59 5 M 4 = s0.toNat := hrow_v (by decide) (by have h : M 59 4 = s0 := m1.2; rw [h]; omega)
  have hp : ∀ o, o < 4 → hrow 59 5 M o = hrow 59 4 M o := fun o ho => hrow_lt ho (by decide)
  have ej : j1 = s0.toNat := by omega
  subst ej
  have k1 := (Eq.mp hp_335 m2) s0.toNat (by omega)
  rw [m3.2] at k1
  have z := mx_u (hmC_0 hG) hp hj (by omega) x3 k1.symm
  rw [show max s1 s2 = s2 by omega] at z
  exact ⟨Eq.mpr hp_325 ⟨0, by omega, by omega, z⟩, trivial⟩
theorem rul_861 : Rul r_861 := by
  refine ⟨fun _ ρ M hm hB hF hG => ?_, fun gi gv hg => (by cases hg)⟩
  have H := cr_861 M (ρ 0) (ρ 1) (ρ 2) (hB _ List.mem_cons_self) (hB _ (List.mem_cons_of_mem _ List.mem_cons_self)) (hB _ (List.mem_cons_of_mem _ (List.mem_cons_of_mem _ List.mem_cons_self))) (cvp 324 (x' := ((ρ 0))) (y' := ((ρ 1))) (by show 0 + (1 * ρ 0 + 0) = _; omega) (by show 0 + (1 * ρ 1 + 0) = _; omega) (hm _ List.mem_cons_self)) (cvm (c := 59) (by decide) (x' := (4 : Int)) (y' := ((ρ 0))) (by show 4 + 0 = _; omega) (by show 0 + (1 * ρ 0 + 0) = _; omega) (hm _ (List.mem_cons_of_mem _ List.mem_cons_self))) (cvp 335 (x' := (0 : Int)) (y' := (0 : Int)) (by show 0 + 0 = _; omega) (by show 0 + 0 = _; omega) (hm _ (List.mem_cons_of_mem _ (List.mem_cons_of_mem _ List.mem_cons_self)))) (cvm (c := 58) (by decide) (x' := ((ρ 0))) (y' := ((ρ 2))) (by show 0 + (1 * ρ 0 + 0) = _; omega) (by show 0 + (1 * ρ 2 + 0) = _; omega) (hm _ (List.mem_cons_of_mem _ (List.mem_cons_of_mem _ (List.mem_cons_of_mem _ List.mem_cons_self))))) (by have h := hF _ List.mem_cons_self; have h : 0 ≤ (-1) + ((-1) * ρ 1 + (1 * ρ 2 + 0)) := h; omega) hG
  obtain ⟨k0, -⟩ := H
  exact ⟨_, List.mem_cons_self, ρ, fun _ _ => rfl, (okM_c (pvp 325 (by show 0 + 0 = _; omega) (by show 0 + (1 * ρ 2 + 0) = _; omega) k0) okM_n), okB_n, okF_n⟩
-- gs4
theorem cr_862 (M : pM) (s0 s1 s2 s3 : Int) (b0 : 0 ≤ s0 ∧ s0 ≤ 2) (b1 : 0 ≤ s1 ∧ s1 ≤ 63) (b2 : 0 ≤ s2 ∧ s2 ≤ 1980) (b3 : (-2147483648) ≤ s3 ∧ s3 ≤ 2147483647) (m0 : HP 335 (0 : Int) (0 : Int) M) (m1 : (0 ≤ (s0) ∧ M 58 (s0).toNat = (s3))) (m2 : (0 ≤ (4 : Int) ∧ M 59 (4 : Int).toNat = (s0))) (m3 : (0 ≤ (4 : Int) ∧ M 56 (4 : Int).toNat = (s1))) (m4 : (0 ≤ (s1) ∧ M 57 (s1).toNat = (s2))) (hG : gI M) : (HP 334 (0 : Int) (0 : Int) (st M 58 (s0).toNat ((-2) * s2 + s3)) ∧ True) := by
  have hj : hrow 59 5 M 4 = s0.toNat := hrow_v (by decide) (by have h : M 59 4 = s0 := m2.2; rw [h]; omega)
  have hp : ∀ o, o < 4 → hrow 59 5 M o = hrow 59 4 M o := fun o ho => hrow_lt ho (by decide)
  have hz : 2 * s2 = hmC M 4 := (hmC_v (o := 4) (c := s1.toNat) (by decide) (by omega) (by have h : M 56 4 = s1 := m3.2; rw [h]; omega) m4.2).symm
  have hl := Eq.mp hp_335 m0
  refine ⟨Eq.mpr hp_334 (fun a ha => ?_), trivial⟩
  rw [hmC_st (by decide) (by decide), hrow_st (by decide)]
  exact ld_d (R := fun a => M 58 a) (R' := fun a => st M 58 (s0).toNat ((-2) * s2 + s3) 58 a) hp hj hl (fun a ha => by
      show st M 58 (s0).toNat ((-2) * s2 + s3) 58 a = if a = s0.toNat then M 58 s0.toNat - 2 * s2 else M 58 a
      rw [hst_v]
      by_cases e : a = s0.toNat
      · rw [if_pos e, if_pos e, m1.2]; omega
      · rw [if_neg e, if_neg e]) hz (by omega) a ha
theorem rul_862 : Rul r_862 := by
  refine ⟨fun h => (by cases h), fun gi gv hg ρ M hm hB hF hG => ?_⟩
  obtain ⟨g1, g2⟩ := List.cons.inj (show ([aI ((0 : Int), ([(0, 1)] : List (Nat × Int))), aI ((0 : Int), ([(2, (-2)), (3, 1)] : List (Nat × Int)))] : List av) = [.inl gi, .inl gv] from hg)
  obtain ⟨g2, -⟩ := List.cons.inj g2
  cases g1
  cases g2
  have ei : ev ρ ((0 : Int), ([(0, 1)] : List (Nat × Int))) = ((ρ 0)) := by show 0 + (1 * ρ 0 + 0) = _; omega
  have ew : ev ρ ((0 : Int), ([(2, (-2)), (3, 1)] : List (Nat × Int))) = ((-2) * (ρ 2) + (ρ 3)) := by show 0 + ((-2) * ρ 2 + (1 * ρ 3 + 0)) = _; omega
  rw [show (st M (ctj r_862) (ev ρ ((0 : Int), ([(0, 1)] : List (Nat × Int)))).toNat (ev ρ ((0 : Int), ([(2, (-2)), (3, 1)] : List (Nat × Int))))) = (st M 58 ((ρ 0)).toNat ((-2) * (ρ 2) + (ρ 3))) from by rw [ei, ew]; rfl]
  have H := cr_862 M (ρ 0) (ρ 1) (ρ 2) (ρ 3) (hB _ List.mem_cons_self) (hB _ (List.mem_cons_of_mem _ List.mem_cons_self)) (hB _ (List.mem_cons_of_mem _ (List.mem_cons_of_mem _ List.mem_cons_self))) (hB _ (List.mem_cons_of_mem _ (List.mem_cons_of_mem _ (List.mem_cons_of_mem _ List.mem_cons_self)))) (cvp 335 (x' := (0 : Int)) (y' := (0 : Int)) (by show 0 + 0 = _; omega) (by show 0 + 0 = _; omega) (hm _ List.mem_cons_self)) (cvm (c := 58) (by decide) (x' := ((ρ 0))) (y' := ((ρ 3))) (by show 0 + (1 * ρ 0 + 0) = _; omega) (by show 0 + (1 * ρ 3 + 0) = _; omega) (hm _ (List.mem_cons_of_mem _ List.mem_cons_self))) (cvm (c := 59) (by decide) (x' := (4 : Int)) (y' := ((ρ 0))) (by show 4 + 0 = _; omega) (by show 0 + (1 * ρ 0 + 0) = _; omega) (hm _ (List.mem_cons_of_mem _ (List.mem_cons_of_mem _ List.mem_cons_self)))) (cvm (c := 56) (by decide) (x' := (4 : Int)) (y' := ((ρ 1))) (by show 4 + 0 = _; omega) (by show 0 + (1 * ρ 1 + 0) = _; omega) (hm _ (List.mem_cons_of_mem _ (List.mem_cons_of_mem _ (List.mem_cons_of_mem _ List.mem_cons_self))))) (cvm (c := 57) (by decide) (x' := ((ρ 1))) (y' := ((ρ 2))) (by show 0 + (1 * ρ 1 + 0) = _; omega) (by show 0 + (1 * ρ 2 + 0) = _; omega) (hm _ (List.mem_cons_of_mem _ (List.mem_cons_of_mem _ (List.mem_cons_of_mem _ (List.mem_cons_of_mem _ List.mem_cons_self)))))) hG
  obtain ⟨k0, -⟩ := H
  exact ⟨_, List.mem_cons_self, ρ, fun _ _ => rfl, (okM_c (pvp 334 (by show 0 + 0 = _; omega) (by show 0 + 0 = _; omega) k0) okM_n), okB_n, okF_n⟩
-- gsb4
theorem cr_863 (M : pM) (s0 s1 s2 s3 : Int) (b0 : 0 ≤ s0 ∧ s0 ≤ 2) (b1 : 0 ≤ s1 ∧ s1 ≤ 63) (b2 : 0 ≤ s2 ∧ s2 ≤ 1980) (b3 : (-2147483648) ≤ s3 ∧ s3 ≤ 2147483647) (m0 : HP 335 (0 : Int) (0 : Int) M) (m1 : (0 ≤ (s0) ∧ M 58 (s0).toNat = (s3))) (m2 : (0 ≤ (4 : Int) ∧ M 59 (4 : Int).toNat = (s0))) (m3 : (0 ≤ (4 : Int) ∧ M 56 (4 : Int).toNat = (s1))) (m4 : (0 ≤ (s1) ∧ M 57 (s1).toNat = (s2))) (hG : gI M) : (0 ≤ ((-2) * s2 + s3) ∧ True) := by
  have hj : hrow 59 5 M 4 = s0.toNat := hrow_v (by decide) (by have h : M 59 4 = s0 := m2.2; rw [h]; omega)
  have hp : ∀ o, o < 4 → hrow 59 5 M o = hrow 59 4 M o := fun o ho => hrow_lt ho (by decide)
  have hz : 2 * s2 = hmC M 4 := (hmC_v (o := 4) (c := s1.toNat) (by decide) (by omega) (by have h : M 56 4 = s1 := m3.2; rw [h]; omega) m4.2).symm
  have k1 := (Eq.mp hp_335 m0) s0.toNat (by omega)
  rw [m1.2] at k1
  have k2 : hps (hmC M) (hrow 59 5 M) s0.toNat 5 = hps (hmC M) (hrow 59 5 M) s0.toNat 4 + (if hrow 59 5 M 4 = s0.toNat then hmC M 4 else 0) := rfl
  rw [hj, if_pos rfl] at k2
  have k3 := hps_0 (t := hrow 59 5 M) (a := s0.toNat) (hmC_0 hG) 4
  exact ⟨by omega, trivial⟩
theorem rul_863 : Rul r_863 := by
  refine ⟨fun _ ρ M hm hB hF hG => ?_, fun gi gv hg => (by cases hg)⟩
  have H := cr_863 M (ρ 0) (ρ 1) (ρ 2) (ρ 3) (hB _ List.mem_cons_self) (hB _ (List.mem_cons_of_mem _ List.mem_cons_self)) (hB _ (List.mem_cons_of_mem _ (List.mem_cons_of_mem _ List.mem_cons_self))) (hB _ (List.mem_cons_of_mem _ (List.mem_cons_of_mem _ (List.mem_cons_of_mem _ List.mem_cons_self)))) (cvp 335 (x' := (0 : Int)) (y' := (0 : Int)) (by show 0 + 0 = _; omega) (by show 0 + 0 = _; omega) (hm _ List.mem_cons_self)) (cvm (c := 58) (by decide) (x' := ((ρ 0))) (y' := ((ρ 3))) (by show 0 + (1 * ρ 0 + 0) = _; omega) (by show 0 + (1 * ρ 3 + 0) = _; omega) (hm _ (List.mem_cons_of_mem _ List.mem_cons_self))) (cvm (c := 59) (by decide) (x' := (4 : Int)) (y' := ((ρ 0))) (by show 4 + 0 = _; omega) (by show 0 + (1 * ρ 0 + 0) = _; omega) (hm _ (List.mem_cons_of_mem _ (List.mem_cons_of_mem _ List.mem_cons_self)))) (cvm (c := 56) (by decide) (x' := (4 : Int)) (y' := ((ρ 1))) (by show 4 + 0 = _; omega) (by show 0 + (1 * ρ 1 + 0) = _; omega) (hm _ (List.mem_cons_of_mem _ (List.mem_cons_of_mem _ (List.mem_cons_of_mem _ List.mem_cons_self))))) (cvm (c := 57) (by decide) (x' := ((ρ 1))) (y' := ((ρ 2))) (by show 0 + (1 * ρ 1 + 0) = _; omega) (by show 0 + (1 * ρ 2 + 0) = _; omega) (hm _ (List.mem_cons_of_mem _ (List.mem_cons_of_mem _ (List.mem_cons_of_mem _ (List.mem_cons_of_mem _ List.mem_cons_self)))))) hG
  obtain ⟨f0, -⟩ := H
  exact ⟨_, List.mem_cons_self, ρ, fun _ _ => rfl, okM_n, okB_n, (okF_c (by show 0 ≤ 0 + ((-2) * ρ 2 + (1 * ρ 3 + 0)); omega) okF_n)⟩
-- gn4
theorem cr_864 (M : pM) (s0 s1 s2 : Int) (b0 : 0 ≤ s0 ∧ s0 ≤ 2) (b1 : 1 ≤ s1 ∧ s1 ≤ 3) (b2 : 0 ≤ s2 ∧ s2 ≤ 9) (m0 : HP 315 (s1) (s1) M) (m1 : (0 ≤ (4 : Int) ∧ M 59 (4 : Int).toNat = (s0))) (m2 : (0 ≤ (1 : Int) ∧ M 55 (1 : Int).toNat = (s2))) (f0 : 0 ≤ ((-1) * s0 + s1 - 1)) (f1 : 0 ≤ (s2 - 5)) (hG : gI M) : (HP 314 (s0 + 1) (s1) M ∧ True) := by
  obtain ⟨j0, T0, t1, t2, t3, t4, t5, t6, t7⟩ := Eq.mp hp_315 m0
  have hj : hrow 59 5 M 4 = s0.toNat := hrow_v (by decide) (by have h : M 59 4 = s0 := m1.2; rw [h]; omega)
  have hp : ∀ o, o < 4 → hrow 59 5 M o = hrow 59 4 M o := fun o ho => hrow_lt ho (by decide)
  have en : hnC M = s2.toNat := hnC_v (by omega) (by have h : M 55 1 = s2 := m2.2; rw [h]; omega)
  have ej : j0 = T0 := by omega
  subst ej
  exact ⟨Eq.mpr hp_314 ⟨s0.toNat + 1, j0, t1, t2, by omega, by omega, by omega, fun o ho => by rw [← hp o ho]; exact t6 o (by omega), hj_up hp hj (by omega) (by rw [en]; omega) t7⟩, trivial⟩
theorem rul_864 : Rul r_864 := by
  refine ⟨fun _ ρ M hm hB hF hG => ?_, fun gi gv hg => (by cases hg)⟩
  have H := cr_864 M (ρ 0) (ρ 1) (ρ 2) (hB _ List.mem_cons_self) (hB _ (List.mem_cons_of_mem _ List.mem_cons_self)) (hB _ (List.mem_cons_of_mem _ (List.mem_cons_of_mem _ List.mem_cons_self))) (cvp 315 (x' := ((ρ 1))) (y' := ((ρ 1))) (by show 0 + (1 * ρ 1 + 0) = _; omega) (by show 0 + (1 * ρ 1 + 0) = _; omega) (hm _ List.mem_cons_self)) (cvm (c := 59) (by decide) (x' := (4 : Int)) (y' := ((ρ 0))) (by show 4 + 0 = _; omega) (by show 0 + (1 * ρ 0 + 0) = _; omega) (hm _ (List.mem_cons_of_mem _ List.mem_cons_self))) (cvm (c := 55) (by decide) (x' := (1 : Int)) (y' := ((ρ 2))) (by show 1 + 0 = _; omega) (by show 0 + (1 * ρ 2 + 0) = _; omega) (hm _ (List.mem_cons_of_mem _ (List.mem_cons_of_mem _ List.mem_cons_self)))) (by have h := hF _ List.mem_cons_self; have h : 0 ≤ (-1) + ((-1) * ρ 0 + (1 * ρ 1 + 0)) := h; omega) (by have h := hF _ (List.mem_cons_of_mem _ List.mem_cons_self); have h : 0 ≤ (-5) + (1 * ρ 2 + 0) := h; omega) hG
  obtain ⟨k0, -⟩ := H
  exact ⟨_, List.mem_cons_self, ρ, fun _ _ => rfl, (okM_c (pvp 314 (by show 1 + (1 * ρ 0 + 0) = _; omega) (by show 0 + (1 * ρ 1 + 0) = _; omega) k0) okM_n), okB_n, okF_n⟩
-- ge4
theorem cr_865 (M : pM) (s0 s1 s2 s3 s4 : Int) (b0 : 0 ≤ s0 ∧ s0 ≤ 2) (b1 : 1 ≤ s1 ∧ s1 ≤ 3) (b2 : 0 ≤ s2 ∧ s2 ≤ 35640) (b3 : 0 ≤ s3 ∧ s3 ≤ 0) (b4 : 0 ≤ s4 ∧ s4 ≤ 9) (m0 : HP 314 (s0 + 1) (s1) M) (m1 : HP 334 (0 : Int) (0 : Int) M) (m2 : (0 ≤ (s0) ∧ M 58 (s0).toNat = (s3))) (m3 : HP 324 (s0) (s2) M) (m4 : (0 ≤ (1 : Int) ∧ M 55 (1 : Int).toNat = (s4))) (f0 : 0 ≤ (s4 - 5)) (f1 : 0 ≤ ((-1) * s0 + s1 - 1)) (hG : gI M) : (HP 314 (s1) (s1) M ∧ True) := by
  obtain ⟨j0, T0, t1, t2, t3, t4, t5, t6, t7⟩ := Eq.mp hp_314 m0
  obtain ⟨j1, x1, x2, x3⟩ := Eq.mp hp_324 m3
  have en : hnC M = s4.toNat := hnC_v (by omega) (by have h : M 55 1 = s4 := m4.2; rw [h]; omega)
  have ej : j1 = s0.toNat := by omega
  subst ej
  have ek : j0 = s0.toNat + 1 := by omega
  subst ek
  have k1 := (Eq.mp hp_334 m1) s0.toNat (by omega)
  rw [m2.2] at k1
  exact ⟨Eq.mpr hp_314 ⟨T0, T0, t1, t2, Nat.le_refl _, by omega, by omega, t6, hj_sw (by rw [en]; omega) (by omega) t2 t7 x3 (by omega)⟩, trivial⟩
theorem rul_865 : Rul r_865 := by
  refine ⟨fun _ ρ M hm hB hF hG => ?_, fun gi gv hg => (by cases hg)⟩
  have H := cr_865 M (ρ 0) (ρ 1) (ρ 2) (ρ 3) (ρ 4) (hB _ List.mem_cons_self) (hB _ (List.mem_cons_of_mem _ List.mem_cons_self)) (hB _ (List.mem_cons_of_mem _ (List.mem_cons_of_mem _ List.mem_cons_self))) (hB _ (List.mem_cons_of_mem _ (List.mem_cons_of_mem _ (List.mem_cons_of_mem _ List.mem_cons_self)))) (hB _ (List.mem_cons_of_mem _ (List.mem_cons_of_mem _ (List.mem_cons_of_mem _ (List.mem_cons_of_mem _ List.mem_cons_self))))) (cvp 314 (x' := ((ρ 0) + 1)) (y' := ((ρ 1))) (by show 1 + (1 * ρ 0 + 0) = _; omega) (by show 0 + (1 * ρ 1 + 0) = _; omega) (hm _ List.mem_cons_self)) (cvp 334 (x' := (0 : Int)) (y' := (0 : Int)) (by show 0 + 0 = _; omega) (by show 0 + 0 = _; omega) (hm _ (List.mem_cons_of_mem _ List.mem_cons_self))) (cvm (c := 58) (by decide) (x' := ((ρ 0))) (y' := ((ρ 3))) (by show 0 + (1 * ρ 0 + 0) = _; omega) (by show 0 + (1 * ρ 3 + 0) = _; omega) (hm _ (List.mem_cons_of_mem _ (List.mem_cons_of_mem _ List.mem_cons_self)))) (cvp 324 (x' := ((ρ 0))) (y' := ((ρ 2))) (by show 0 + (1 * ρ 0 + 0) = _; omega) (by show 0 + (1 * ρ 2 + 0) = _; omega) (hm _ (List.mem_cons_of_mem _ (List.mem_cons_of_mem _ (List.mem_cons_of_mem _ List.mem_cons_self))))) (cvm (c := 55) (by decide) (x' := (1 : Int)) (y' := ((ρ 4))) (by show 1 + 0 = _; omega) (by show 0 + (1 * ρ 4 + 0) = _; omega) (hm _ (List.mem_cons_of_mem _ (List.mem_cons_of_mem _ (List.mem_cons_of_mem _ (List.mem_cons_of_mem _ List.mem_cons_self)))))) (by have h := hF _ List.mem_cons_self; have h : 0 ≤ (-5) + (1 * ρ 4 + 0) := h; omega) (by have h := hF _ (List.mem_cons_of_mem _ List.mem_cons_self); have h : 0 ≤ (-1) + ((-1) * ρ 0 + (1 * ρ 1 + 0)) := h; omega) hG
  obtain ⟨k0, -⟩ := H
  exact ⟨_, List.mem_cons_self, ρ, fun _ _ => rfl, (okM_c (pvp 314 (by show 0 + (1 * ρ 1 + 0) = _; omega) (by show 0 + (1 * ρ 1 + 0) = _; omega) k0) okM_n), okB_n, okF_n⟩
-- gz4
theorem cr_866 (M : pM) (s0 s1 s2 : Int) (b0 : 0 ≤ s0 ∧ s0 ≤ 2) (b1 : 0 ≤ s1 ∧ s1 ≤ 35640) (b2 : (-2147483648) ≤ s2 ∧ s2 ≤ 2147483647) (m0 : HP 324 (s0) (s1) M) (m1 : HP 334 (0 : Int) (0 : Int) M) (m2 : (0 ≤ (s0) ∧ M 58 (s0).toNat = (s2))) (f0 : 0 ≤ (s2 - 1)) (hG : gI M) : (HP 324 (s0 + 1) (s1) M ∧ True) := by
  obtain ⟨j1, x1, x2, x3⟩ := Eq.mp hp_324 m0
  have ej : j1 = s0.toNat := by omega
  subst ej
  have k1 := (Eq.mp hp_334 m1) s0.toNat (by omega)
  rw [m2.2] at k1
  exact ⟨Eq.mpr hp_324 ⟨s0.toNat + 1, by omega, by omega, mx_z x3 (by omega)⟩, trivial⟩
theorem rul_866 : Rul r_866 := by
  refine ⟨fun _ ρ M hm hB hF hG => ?_, fun gi gv hg => (by cases hg)⟩
  have H := cr_866 M (ρ 0) (ρ 1) (ρ 2) (hB _ List.mem_cons_self) (hB _ (List.mem_cons_of_mem _ List.mem_cons_self)) (hB _ (List.mem_cons_of_mem _ (List.mem_cons_of_mem _ List.mem_cons_self))) (cvp 324 (x' := ((ρ 0))) (y' := ((ρ 1))) (by show 0 + (1 * ρ 0 + 0) = _; omega) (by show 0 + (1 * ρ 1 + 0) = _; omega) (hm _ List.mem_cons_self)) (cvp 334 (x' := (0 : Int)) (y' := (0 : Int)) (by show 0 + 0 = _; omega) (by show 0 + 0 = _; omega) (hm _ (List.mem_cons_of_mem _ List.mem_cons_self))) (cvm (c := 58) (by decide) (x' := ((ρ 0))) (y' := ((ρ 2))) (by show 0 + (1 * ρ 0 + 0) = _; omega) (by show 0 + (1 * ρ 2 + 0) = _; omega) (hm _ (List.mem_cons_of_mem _ (List.mem_cons_of_mem _ List.mem_cons_self)))) (by have h := hF _ List.mem_cons_self; have h : 0 ≤ (-1) + (1 * ρ 2 + 0) := h; omega) hG
  obtain ⟨k0, -⟩ := H
  exact ⟨_, List.mem_cons_self, ρ, fun _ _ => rfl, (okM_c (pvp 324 (by show 1 + (1 * ρ 0 + 0) = _; omega) (by show 0 + (1 * ρ 1 + 0) = _; omega) k0) okM_n), okB_n, okF_n⟩
-- gf4
theorem cr_867 (M : pM) (s0 s1 : Int) (b0 : 0 ≤ s0 ∧ s0 ≤ 3) (b1 : 1 ≤ s1 ∧ s1 ≤ 3) (m0 : HP 314 (s0) (s1) M) (f0 : 0 ≤ (s0 + (-1) * s1)) (f1 : 0 ≤ ((-1) * s0 + s1)) (hG : gI M) : (HP 314 (s1) (s1) M ∧ True) := by
  obtain ⟨j0, T0, t1, t2, t3, t4, t5, t6, t7⟩ := Eq.mp hp_314 m0
  have ej : j0 = T0 := by omega
  subst ej
  exact ⟨Eq.mpr hp_314 ⟨j0, j0, t1, t2, Nat.le_refl _, by omega, by omega, t6, t7⟩, trivial⟩
theorem rul_867 : Rul r_867 := by
  refine ⟨fun _ ρ M hm hB hF hG => ?_, fun gi gv hg => (by cases hg)⟩
  have H := cr_867 M (ρ 0) (ρ 1) (hB _ List.mem_cons_self) (hB _ (List.mem_cons_of_mem _ List.mem_cons_self)) (cvp 314 (x' := ((ρ 0))) (y' := ((ρ 1))) (by show 0 + (1 * ρ 0 + 0) = _; omega) (by show 0 + (1 * ρ 1 + 0) = _; omega) (hm _ List.mem_cons_self)) (by have h := hF _ List.mem_cons_self; have h : 0 ≤ 0 + (1 * ρ 0 + ((-1) * ρ 1 + 0)) := h; omega) (by have h := hF _ (List.mem_cons_of_mem _ List.mem_cons_self); have h : 0 ≤ 0 + ((-1) * ρ 0 + (1 * ρ 1 + 0)) := h; omega) hG
  obtain ⟨k0, -⟩ := H
  exact ⟨_, List.mem_cons_self, ρ, fun _ _ => rfl, (okM_c (pvp 314 (by show 0 + (1 * ρ 1 + 0) = _; omega) (by show 0 + (1 * ρ 1 + 0) = _; omega) k0) okM_n), okB_n, okF_n⟩
-- gb4
theorem cr_868 (M : pM) (s0 s1 s2 : Int) (b0 : 0 ≤ s0 ∧ s0 ≤ 35640) (b1 : 0 ≤ s1 ∧ s1 ≤ 3) (b2 : 0 ≤ s2 ∧ s2 ≤ 9) (m0 : HP 324 (s1) (s0) M) (m1 : HP 342 (s2) (0 : Int) M) (f0 : 0 ≤ (s2 - 4)) (hG : gI M) : (0 ≤ ((-1) * s0 + 15840) ∧ True) := by
  obtain ⟨j1, x1, x2, x3⟩ := Eq.mp hp_324 m0
  obtain ⟨h1, h2, h3⟩ := Eq.mp hp_342 m1
  obtain ⟨a, a1, a2⟩ := x3.2.1
  have k := hps_b (m := hmC M) (t := (hrow 59 4 M)) (a := a) (K := 3960) (by decide) (g := 4) (fun o ho => h3 o (by omega))
  rw [a2] at k
  exact ⟨by omega, trivial⟩
theorem rul_868 : Rul r_868 := by
  refine ⟨fun _ ρ M hm hB hF hG => ?_, fun gi gv hg => (by cases hg)⟩
  have H := cr_868 M (ρ 0) (ρ 1) (ρ 2) (hB _ List.mem_cons_self) (hB _ (List.mem_cons_of_mem _ List.mem_cons_self)) (hB _ (List.mem_cons_of_mem _ (List.mem_cons_of_mem _ List.mem_cons_self))) (cvp 324 (x' := ((ρ 1))) (y' := ((ρ 0))) (by show 0 + (1 * ρ 1 + 0) = _; omega) (by show 0 + (1 * ρ 0 + 0) = _; omega) (hm _ List.mem_cons_self)) (cvp 342 (x' := ((ρ 2))) (y' := (0 : Int)) (by show 0 + (1 * ρ 2 + 0) = _; omega) (by show 0 + 0 = _; omega) (hm _ (List.mem_cons_of_mem _ List.mem_cons_self))) (by have h := hF _ List.mem_cons_self; have h : 0 ≤ (-4) + (1 * ρ 2 + 0) := h; omega) hG
  obtain ⟨f0, -⟩ := H
  exact ⟨_, List.mem_cons_self, ρ, fun _ _ => rfl, okM_n, okB_n, (okF_c (by show 0 ≤ 15840 + ((-1) * ρ 0 + 0); omega) okF_n)⟩
-- gpr5
theorem cr_869 (M : pM) (s0 s1 s2 s3 : Int) (b0 : 1 ≤ s0 ∧ s0 ≤ 3) (b1 : 0 ≤ s1 ∧ s1 ≤ 35640) (b2 : 0 ≤ s2 ∧ s2 ≤ 9) (b3 : 0 ≤ s3 ∧ s3 ≤ 1000000) (m0 : HP 315 (0 : Int) (s0) M) (m1 : HP 325 (0 : Int) (s1) M) (m2 : (0 ≤ (1 : Int) ∧ M 55 (1 : Int).toNat = (s2))) (m3 : (0 ≤ (6 : Int) ∧ M 55 (6 : Int).toNat = (s3))) (f0 : 0 ≤ (s1 + (-1) * s3)) (f1 : 0 ≤ (s2 - 5)) (hG : gI M) : (HP 315 (s0) (s0) M ∧ True) := by
  obtain ⟨j0, T0, t1, t2, t3, t4, t5, t6, t7⟩ := Eq.mp hp_315 m0
  obtain ⟨j1, x1, x2, x3⟩ := Eq.mp hp_325 m1
  have en : hnC M = s2.toNat := hnC_v (by omega) (by have h : M 55 1 = s2 := m2.2; rw [h]; omega)
  have eb : M 55 6 = s3 := m3.2
  have ej : j0 = 0 := by omega
  subst ej
  exact ⟨Eq.mpr hp_315 ⟨T0, T0, t1, t2, Nat.le_refl _, by omega, by omega, t6, hj_pr (hmC_0 hG) (by rw [en]; omega) t7 x3 (by rw [eb]; omega)⟩, trivial⟩
theorem rul_869 : Rul r_869 := by
  refine ⟨fun _ ρ M hm hB hF hG => ?_, fun gi gv hg => (by cases hg)⟩
  have H := cr_869 M (ρ 0) (ρ 1) (ρ 2) (ρ 3) (hB _ List.mem_cons_self) (hB _ (List.mem_cons_of_mem _ List.mem_cons_self)) (hB _ (List.mem_cons_of_mem _ (List.mem_cons_of_mem _ List.mem_cons_self))) (hB _ (List.mem_cons_of_mem _ (List.mem_cons_of_mem _ (List.mem_cons_of_mem _ List.mem_cons_self)))) (cvp 315 (x' := (0 : Int)) (y' := ((ρ 0))) (by show 0 + 0 = _; omega) (by show 0 + (1 * ρ 0 + 0) = _; omega) (hm _ List.mem_cons_self)) (cvp 325 (x' := (0 : Int)) (y' := ((ρ 1))) (by show 0 + 0 = _; omega) (by show 0 + (1 * ρ 1 + 0) = _; omega) (hm _ (List.mem_cons_of_mem _ List.mem_cons_self))) (cvm (c := 55) (by decide) (x' := (1 : Int)) (y' := ((ρ 2))) (by show 1 + 0 = _; omega) (by show 0 + (1 * ρ 2 + 0) = _; omega) (hm _ (List.mem_cons_of_mem _ (List.mem_cons_of_mem _ List.mem_cons_self)))) (cvm (c := 55) (by decide) (x' := (6 : Int)) (y' := ((ρ 3))) (by show 6 + 0 = _; omega) (by show 0 + (1 * ρ 3 + 0) = _; omega) (hm _ (List.mem_cons_of_mem _ (List.mem_cons_of_mem _ (List.mem_cons_of_mem _ List.mem_cons_self))))) (by have h := hF _ List.mem_cons_self; have h : 0 ≤ 0 + (1 * ρ 1 + ((-1) * ρ 3 + 0)) := h; omega) (by have h := hF _ (List.mem_cons_of_mem _ List.mem_cons_self); have h : 0 ≤ (-5) + (1 * ρ 2 + 0) := h; omega) hG
  obtain ⟨k0, -⟩ := H
  exact ⟨_, List.mem_cons_self, ρ, fun _ _ => rfl, (okM_c (pvp 315 (by show 0 + (1 * ρ 0 + 0) = _; omega) (by show 0 + (1 * ρ 0 + 0) = _; omega) k0) okM_n), okB_n, okF_n⟩
-- glf5
theorem cr_870 (M : pM) (s0 s1 s2 s3 : Int) (b0 : 1 ≤ s0 ∧ s0 ≤ 3) (b1 : 0 ≤ s1 ∧ s1 ≤ 35640) (b2 : 0 ≤ s2 ∧ s2 ≤ 9) (b3 : 0 ≤ s3 ∧ s3 ≤ 1000000) (m0 : HP 315 (0 : Int) (s0) M) (m1 : HP 325 (0 : Int) (s1) M) (m2 : (0 ≤ (1 : Int) ∧ M 55 (1 : Int).toNat = (s2))) (m3 : (0 ≤ (6 : Int) ∧ M 55 (6 : Int).toNat = (s3))) (f0 : 0 ≤ ((-1) * s1 + s3 - 1)) (f1 : 0 ≤ ((-1) * s2 + 5)) (f2 : 0 ≤ (s2 - 5)) (hG : gI M) : (HP 340 (s1) (s0) M ∧ True) := by
  obtain ⟨j0, T0, t1, t2, t3, t4, t5, t6, t7⟩ := Eq.mp hp_315 m0
  obtain ⟨j1, x1, x2, x3⟩ := Eq.mp hp_325 m1
  have en : hnC M = s2.toNat := hnC_v (by omega) (by have h : M 55 1 = s2 := m2.2; rw [h]; omega)
  have eb : M 55 6 = s3 := m3.2
  have ej : j0 = 0 := by omega
  subst ej
  have en2 : hnC M = 5 := by rw [en]; omega
  rw [en2] at t7
  obtain ⟨k1, k2⟩ := hj_lf t7 x3 (by rw [eb]; omega)
  exact ⟨Eq.mpr hp_340 ⟨T0, t1, t2, by omega, by rw [en2]; exact fun o ho => by rw [hrow_lt ho (by decide)]; exact t6 o ho, by rw [en2]; exact (hco_c (fun o ho => hrow_lt ho (by decide))).trans k1, by rw [en2]; exact fun t ht hl => k2 t ht (hlx_c hl (fun o ho => hrow_lt ho (by decide)))⟩, trivial⟩
theorem rul_870 : Rul r_870 := by
  refine ⟨fun _ ρ M hm hB hF hG => ?_, fun gi gv hg => (by cases hg)⟩
  have H := cr_870 M (ρ 0) (ρ 1) (ρ 2) (ρ 3) (hB _ List.mem_cons_self) (hB _ (List.mem_cons_of_mem _ List.mem_cons_self)) (hB _ (List.mem_cons_of_mem _ (List.mem_cons_of_mem _ List.mem_cons_self))) (hB _ (List.mem_cons_of_mem _ (List.mem_cons_of_mem _ (List.mem_cons_of_mem _ List.mem_cons_self)))) (cvp 315 (x' := (0 : Int)) (y' := ((ρ 0))) (by show 0 + 0 = _; omega) (by show 0 + (1 * ρ 0 + 0) = _; omega) (hm _ List.mem_cons_self)) (cvp 325 (x' := (0 : Int)) (y' := ((ρ 1))) (by show 0 + 0 = _; omega) (by show 0 + (1 * ρ 1 + 0) = _; omega) (hm _ (List.mem_cons_of_mem _ List.mem_cons_self))) (cvm (c := 55) (by decide) (x' := (1 : Int)) (y' := ((ρ 2))) (by show 1 + 0 = _; omega) (by show 0 + (1 * ρ 2 + 0) = _; omega) (hm _ (List.mem_cons_of_mem _ (List.mem_cons_of_mem _ List.mem_cons_self)))) (cvm (c := 55) (by decide) (x' := (6 : Int)) (y' := ((ρ 3))) (by show 6 + 0 = _; omega) (by show 0 + (1 * ρ 3 + 0) = _; omega) (hm _ (List.mem_cons_of_mem _ (List.mem_cons_of_mem _ (List.mem_cons_of_mem _ List.mem_cons_self))))) (by have h := hF _ List.mem_cons_self; have h : 0 ≤ (-1) + ((-1) * ρ 1 + (1 * ρ 3 + 0)) := h; omega) (by have h := hF _ (List.mem_cons_of_mem _ List.mem_cons_self); have h : 0 ≤ 5 + ((-1) * ρ 2 + 0) := h; omega) (by have h := hF _ (List.mem_cons_of_mem _ (List.mem_cons_of_mem _ List.mem_cons_self)); have h : 0 ≤ (-5) + (1 * ρ 2 + 0) := h; omega) hG
  obtain ⟨k0, -⟩ := H
  exact ⟨_, List.mem_cons_self, ρ, fun _ _ => rfl, (okM_c (pvp 340 (by show 0 + (1 * ρ 1 + 0) = _; omega) (by show 0 + (1 * ρ 0 + 0) = _; omega) k0) okM_n), okB_n, okF_n⟩
-- glx5
theorem cr_871 (M : pM) (s0 s1 s2 s3 : Int) (b0 : 1 ≤ s0 ∧ s0 ≤ 3) (b1 : 0 ≤ s1 ∧ s1 ≤ 35640) (b2 : 0 ≤ s2 ∧ s2 ≤ 9) (b3 : 0 ≤ s3 ∧ s3 ≤ 1000000) (m0 : HP 340 (s1) (s0) M) (m1 : HP 341 (s2) (0 : Int) M) (m2 : (0 ≤ (1 : Int) ∧ M 55 (1 : Int).toNat = (s2))) (m3 : (0 ≤ (6 : Int) ∧ M 55 (6 : Int).toNat = (s3))) (f0 : 0 ≤ ((-1) * s2 + 5)) (f1 : 0 ≤ (s2 - 5)) (f2 : 0 ≤ (s1 + (-1) * s3)) (f3 : 0 ≤ ((-1) * s1 + s3)) (hG : gI M) : (HP 315 (s0) (s0) M ∧ True) := by
  obtain ⟨T0, q1, q2, q3, q4, q5, q6⟩ := Eq.mp hp_340 m0
  have c2 := Eq.mp hp_341 m1
  have en : hnC M = s2.toNat := hnC_v (by omega) (by have h : M 55 1 = s2 := m2.2; rw [h]; omega)
  have eb : M 55 6 = s3 := m3.2
  have en2 : hnC M = 5 := by rw [en]; omega
  rw [en2] at q4 q5 q6
  exact ⟨Eq.mpr hp_315 ⟨T0, T0, q1, q2, Nat.le_refl _, by omega, by omega, fun o ho => by rw [← hrow_lt (k := 9) ho (by decide)]; exact q4 o ho, by
      rw [en2]
      exact hj_le (q := hrow 59 9 M) (fun o ho => hrow_lt ho (by decide)) (fun o ho => hrow_e (by omega) (c2 o (by omega) (by omega))) q4 (q5.trans (by rw [eb]; omega)) (fun t ht hl => by have := q6 t ht hl; rw [eb]; omega)⟩, trivial⟩
theorem rul_871 : Rul r_871 := by
  refine ⟨fun _ ρ M hm hB hF hG => ?_, fun gi gv hg => (by cases hg)⟩
  have H := cr_871 M (ρ 0) (ρ 1) (ρ 2) (ρ 3) (hB _ List.mem_cons_self) (hB _ (List.mem_cons_of_mem _ List.mem_cons_self)) (hB _ (List.mem_cons_of_mem _ (List.mem_cons_of_mem _ List.mem_cons_self))) (hB _ (List.mem_cons_of_mem _ (List.mem_cons_of_mem _ (List.mem_cons_of_mem _ List.mem_cons_self)))) (cvp 340 (x' := ((ρ 1))) (y' := ((ρ 0))) (by show 0 + (1 * ρ 1 + 0) = _; omega) (by show 0 + (1 * ρ 0 + 0) = _; omega) (hm _ List.mem_cons_self)) (cvp 341 (x' := ((ρ 2))) (y' := (0 : Int)) (by show 0 + (1 * ρ 2 + 0) = _; omega) (by show 0 + 0 = _; omega) (hm _ (List.mem_cons_of_mem _ List.mem_cons_self))) (cvm (c := 55) (by decide) (x' := (1 : Int)) (y' := ((ρ 2))) (by show 1 + 0 = _; omega) (by show 0 + (1 * ρ 2 + 0) = _; omega) (hm _ (List.mem_cons_of_mem _ (List.mem_cons_of_mem _ List.mem_cons_self)))) (cvm (c := 55) (by decide) (x' := (6 : Int)) (y' := ((ρ 3))) (by show 6 + 0 = _; omega) (by show 0 + (1 * ρ 3 + 0) = _; omega) (hm _ (List.mem_cons_of_mem _ (List.mem_cons_of_mem _ (List.mem_cons_of_mem _ List.mem_cons_self))))) (by have h := hF _ List.mem_cons_self; have h : 0 ≤ 5 + ((-1) * ρ 2 + 0) := h; omega) (by have h := hF _ (List.mem_cons_of_mem _ List.mem_cons_self); have h : 0 ≤ (-5) + (1 * ρ 2 + 0) := h; omega) (by have h := hF _ (List.mem_cons_of_mem _ (List.mem_cons_of_mem _ List.mem_cons_self)); have h : 0 ≤ 0 + (1 * ρ 1 + ((-1) * ρ 3 + 0)) := h; omega) (by have h := hF _ (List.mem_cons_of_mem _ (List.mem_cons_of_mem _ (List.mem_cons_of_mem _ List.mem_cons_self))); have h : 0 ≤ 0 + ((-1) * ρ 1 + (1 * ρ 3 + 0)) := h; omega) hG
  obtain ⟨k0, -⟩ := H
  exact ⟨_, List.mem_cons_self, ρ, fun _ _ => rfl, (okM_c (pvp 315 (by show 0 + (1 * ρ 0 + 0) = _; omega) (by show 0 + (1 * ρ 0 + 0) = _; omega) k0) okM_n), okB_n, okF_n⟩
-- gh5
theorem cr_872 (M : pM) (s0 s1 s2 : Int) (b0 : 0 ≤ s0 ∧ s0 ≤ 2) (b1 : 1 ≤ s1 ∧ s1 ≤ 3) (b2 : 0 ≤ s2 ∧ s2 ≤ 9) (m0 : HP 315 (s0) (s1) M) (m1 : (0 ≤ (5 : Int) ∧ M 59 (5 : Int).toNat = (s0))) (m2 : (0 ≤ (1 : Int) ∧ M 55 (1 : Int).toNat = (s2))) (f0 : 0 ≤ ((-1) * s0 + s1 - 1)) (f1 : 0 ≤ (s2 - 6)) (hG : gI M) : (HP 316 (0 : Int) (s1) M ∧ True) := by
  obtain ⟨j0, T0, t1, t2, t3, t4, t5, t6, t7⟩ := Eq.mp hp_315 m0
  have hj : hrow 59 6 M 5 = s0.toNat := hrow_v (by decide) (by have h : M 59 5 = s0 := m1.2; rw [h]; omega)
  have hp : ∀ o, o < 5 → hrow 59 6 M o = hrow 59 5 M o := fun o ho => hrow_lt ho (by decide)
  have en : hnC M = s2.toNat := hnC_v (by omega) (by have h : M 55 1 = s2 := m2.2; rw [h]; omega)
  have ej : j0 = s0.toNat := by omega
  subst ej
  exact ⟨Eq.mpr hp_316 ⟨0, T0, t1, t2, by omega, by omega, by omega, fun o ho => by
      by_cases e : o = 5
      · rw [e, hj]; omega
      · rw [hp o (by omega)]; exact t6 o (by omega), hj_dn t1 hp hj (by omega) t7⟩, trivial⟩
theorem rul_872 : Rul r_872 := by
  refine ⟨fun _ ρ M hm hB hF hG => ?_, fun gi gv hg => (by cases hg)⟩
  have H := cr_872 M (ρ 0) (ρ 1) (ρ 2) (hB _ List.mem_cons_self) (hB _ (List.mem_cons_of_mem _ List.mem_cons_self)) (hB _ (List.mem_cons_of_mem _ (List.mem_cons_of_mem _ List.mem_cons_self))) (cvp 315 (x' := ((ρ 0))) (y' := ((ρ 1))) (by show 0 + (1 * ρ 0 + 0) = _; omega) (by show 0 + (1 * ρ 1 + 0) = _; omega) (hm _ List.mem_cons_self)) (cvm (c := 59) (by decide) (x' := (5 : Int)) (y' := ((ρ 0))) (by show 5 + 0 = _; omega) (by show 0 + (1 * ρ 0 + 0) = _; omega) (hm _ (List.mem_cons_of_mem _ List.mem_cons_self))) (cvm (c := 55) (by decide) (x' := (1 : Int)) (y' := ((ρ 2))) (by show 1 + 0 = _; omega) (by show 0 + (1 * ρ 2 + 0) = _; omega) (hm _ (List.mem_cons_of_mem _ (List.mem_cons_of_mem _ List.mem_cons_self)))) (by have h := hF _ List.mem_cons_self; have h : 0 ≤ (-1) + ((-1) * ρ 0 + (1 * ρ 1 + 0)) := h; omega) (by have h := hF _ (List.mem_cons_of_mem _ List.mem_cons_self); have h : 0 ≤ (-6) + (1 * ρ 2 + 0) := h; omega) hG
  obtain ⟨k0, -⟩ := H
  exact ⟨_, List.mem_cons_self, ρ, fun _ _ => rfl, (okM_c (pvp 316 (by show 0 + 0 = _; omega) (by show 0 + (1 * ρ 1 + 0) = _; omega) k0) okM_n), okB_n, okF_n⟩
-- gld5
theorem cr_873 (M : pM) (s0 s1 s2 s3 : Int) (b0 : 0 ≤ s0 ∧ s0 ≤ 2) (b1 : (-2147483648) ≤ s1 ∧ s1 ≤ 2147483647) (b2 : 0 ≤ s2 ∧ s2 ≤ 3) (b3 : 0 ≤ s3 ∧ s3 ≤ 35640) (m0 : HP 335 (0 : Int) (0 : Int) M) (m1 : (0 ≤ (s0) ∧ M 58 (s0).toNat = (s1))) (m2 : HP 325 (s2) (s3) M) (hG : gI M) : (0 ≤ (s1) ∧ 0 ≤ ((-1) * s1 + s3) ∧ True) := by
  obtain ⟨j1, x1, x2, x3⟩ := Eq.mp hp_325 m2
  have k1 := (Eq.mp hp_335 m0) s0.toNat (by omega)
  rw [m1.2] at k1
  have k2 := hps_0 (t := (hrow 59 5 M)) (a := s0.toNat) (hmC_0 hG) 5
  have k3 := x3.1 s0.toNat (by omega)
  exact ⟨by omega, by omega, trivial⟩
theorem rul_873 : Rul r_873 := by
  refine ⟨fun _ ρ M hm hB hF hG => ?_, fun gi gv hg => (by cases hg)⟩
  have H := cr_873 M (ρ 0) (ρ 1) (ρ 2) (ρ 3) (hB _ List.mem_cons_self) (hB _ (List.mem_cons_of_mem _ List.mem_cons_self)) (hB _ (List.mem_cons_of_mem _ (List.mem_cons_of_mem _ List.mem_cons_self))) (hB _ (List.mem_cons_of_mem _ (List.mem_cons_of_mem _ (List.mem_cons_of_mem _ List.mem_cons_self)))) (cvp 335 (x' := (0 : Int)) (y' := (0 : Int)) (by show 0 + 0 = _; omega) (by show 0 + 0 = _; omega) (hm _ List.mem_cons_self)) (cvm (c := 58) (by decide) (x' := ((ρ 0))) (y' := ((ρ 1))) (by show 0 + (1 * ρ 0 + 0) = _; omega) (by show 0 + (1 * ρ 1 + 0) = _; omega) (hm _ (List.mem_cons_of_mem _ List.mem_cons_self))) (cvp 325 (x' := ((ρ 2))) (y' := ((ρ 3))) (by show 0 + (1 * ρ 2 + 0) = _; omega) (by show 0 + (1 * ρ 3 + 0) = _; omega) (hm _ (List.mem_cons_of_mem _ (List.mem_cons_of_mem _ List.mem_cons_self)))) hG
  obtain ⟨f0, f1, -⟩ := H
  exact ⟨_, List.mem_cons_self, ρ, fun _ _ => rfl, okM_n, okB_n, (okF_c (by show 0 ≤ 0 + (1 * ρ 1 + 0); omega) (okF_c (by show 0 ≤ 0 + ((-1) * ρ 1 + (1 * ρ 3 + 0)); omega) okF_n))⟩
-- gl5
theorem cr_874 (M : pM) (s0 s1 s2 s3 : Int) (b0 : 0 ≤ s0 ∧ s0 ≤ 2) (b1 : 0 ≤ s1 ∧ s1 ≤ 63) (b2 : 0 ≤ s2 ∧ s2 ≤ 1980) (b3 : 0 ≤ s3 ∧ s3 ≤ 35640) (m0 : HP 335 (0 : Int) (0 : Int) M) (m1 : (0 ≤ (s0) ∧ M 58 (s0).toNat = (s3))) (m2 : (0 ≤ (5 : Int) ∧ M 59 (5 : Int).toNat = (s0))) (m3 : (0 ≤ (5 : Int) ∧ M 56 (5 : Int).toNat = (s1))) (m4 : (0 ≤ (s1) ∧ M 57 (s1).toNat = (s2))) (hG : gI M) : (HP 336 (0 : Int) (0 : Int) (st M 58 (s0).toNat (2 * s2 + s3)) ∧ True) := by
  have hj : hrow 59 6 M 5 = s0.toNat := hrow_v (by decide) (by have h : M 59 5 = s0 := m2.2; rw [h]; omega)
  have hp : ∀ o, o < 5 → hrow 59 6 M o = hrow 59 5 M o := fun o ho => hrow_lt ho (by decide)
  have hz : 2 * s2 = hmC M 5 := (hmC_v (o := 5) (c := s1.toNat) (by decide) (by omega) (by have h : M 56 5 = s1 := m3.2; rw [h]; omega) m4.2).symm
  have hl := Eq.mp hp_335 m0
  refine ⟨Eq.mpr hp_336 (fun a ha => ?_), trivial⟩
  rw [hmC_st (by decide) (by decide), hrow_st (by decide)]
  exact ld_u (R := fun a => M 58 a) (R' := fun a => st M 58 (s0).toNat (2 * s2 + s3) 58 a) hp hj hl (fun a ha => by
      show st M 58 (s0).toNat (2 * s2 + s3) 58 a = if a = s0.toNat then M 58 s0.toNat + 2 * s2 else M 58 a
      rw [hst_v]
      by_cases e : a = s0.toNat
      · rw [if_pos e, if_pos e, m1.2]; omega
      · rw [if_neg e, if_neg e]) hz (by omega) a ha
theorem rul_874 : Rul r_874 := by
  refine ⟨fun h => (by cases h), fun gi gv hg ρ M hm hB hF hG => ?_⟩
  obtain ⟨g1, g2⟩ := List.cons.inj (show ([aI ((0 : Int), ([(0, 1)] : List (Nat × Int))), aI ((0 : Int), ([(2, 2), (3, 1)] : List (Nat × Int)))] : List av) = [.inl gi, .inl gv] from hg)
  obtain ⟨g2, -⟩ := List.cons.inj g2
  cases g1
  cases g2
  have ei : ev ρ ((0 : Int), ([(0, 1)] : List (Nat × Int))) = ((ρ 0)) := by show 0 + (1 * ρ 0 + 0) = _; omega
  have ew : ev ρ ((0 : Int), ([(2, 2), (3, 1)] : List (Nat × Int))) = (2 * (ρ 2) + (ρ 3)) := by show 0 + (2 * ρ 2 + (1 * ρ 3 + 0)) = _; omega
  rw [show (st M (ctj r_874) (ev ρ ((0 : Int), ([(0, 1)] : List (Nat × Int)))).toNat (ev ρ ((0 : Int), ([(2, 2), (3, 1)] : List (Nat × Int))))) = (st M 58 ((ρ 0)).toNat (2 * (ρ 2) + (ρ 3))) from by rw [ei, ew]; rfl]
  have H := cr_874 M (ρ 0) (ρ 1) (ρ 2) (ρ 3) (hB _ List.mem_cons_self) (hB _ (List.mem_cons_of_mem _ List.mem_cons_self)) (hB _ (List.mem_cons_of_mem _ (List.mem_cons_of_mem _ List.mem_cons_self))) (hB _ (List.mem_cons_of_mem _ (List.mem_cons_of_mem _ (List.mem_cons_of_mem _ List.mem_cons_self)))) (cvp 335 (x' := (0 : Int)) (y' := (0 : Int)) (by show 0 + 0 = _; omega) (by show 0 + 0 = _; omega) (hm _ List.mem_cons_self)) (cvm (c := 58) (by decide) (x' := ((ρ 0))) (y' := ((ρ 3))) (by show 0 + (1 * ρ 0 + 0) = _; omega) (by show 0 + (1 * ρ 3 + 0) = _; omega) (hm _ (List.mem_cons_of_mem _ List.mem_cons_self))) (cvm (c := 59) (by decide) (x' := (5 : Int)) (y' := ((ρ 0))) (by show 5 + 0 = _; omega) (by show 0 + (1 * ρ 0 + 0) = _; omega) (hm _ (List.mem_cons_of_mem _ (List.mem_cons_of_mem _ List.mem_cons_self)))) (cvm (c := 56) (by decide) (x' := (5 : Int)) (y' := ((ρ 1))) (by show 5 + 0 = _; omega) (by show 0 + (1 * ρ 1 + 0) = _; omega) (hm _ (List.mem_cons_of_mem _ (List.mem_cons_of_mem _ (List.mem_cons_of_mem _ List.mem_cons_self))))) (cvm (c := 57) (by decide) (x' := ((ρ 1))) (y' := ((ρ 2))) (by show 0 + (1 * ρ 1 + 0) = _; omega) (by show 0 + (1 * ρ 2 + 0) = _; omega) (hm _ (List.mem_cons_of_mem _ (List.mem_cons_of_mem _ (List.mem_cons_of_mem _ (List.mem_cons_of_mem _ List.mem_cons_self)))))) hG
  obtain ⟨k0, -⟩ := H
  exact ⟨_, List.mem_cons_self, ρ, fun _ _ => rfl, (okM_c (pvp 336 (by show 0 + 0 = _; omega) (by show 0 + 0 = _; omega) k0) okM_n), okB_n, okF_n⟩
-- gm0_5
theorem cr_875 (M : pM) (s0 s1 s2 : Int) (b0 : 0 ≤ s0 ∧ s0 ≤ 2) (b1 : 0 ≤ s1 ∧ s1 ≤ 35640) (b2 : (-2147483648) ≤ s2 ∧ s2 ≤ 2147483647) (m0 : HP 325 (s0) (s1) M) (m1 : (0 ≤ (5 : Int) ∧ M 59 (5 : Int).toNat = (s0))) (m2 : HP 336 (0 : Int) (0 : Int) M) (m3 : (0 ≤ (s0) ∧ M 58 (s0).toNat = (s2))) (f0 : 0 ≤ (s1 + (-1) * s2)) (hG : gI M) : (HP 326 (0 : Int) (s1) M ∧ True) := by
  obtain ⟨j1, x1, x2, x3⟩ := Eq.mp hp_325 m0
  have hj : hrow 59 6 M 5 = s0.toNat := hrow_v (by decide) (by have h : M 59 5 = s0 := m1.2; rw [h]; omega)
  have hp : ∀ o, o < 5 → hrow 59 6 M o = hrow 59 5 M o := fun o ho => hrow_lt ho (by decide)
  have ej : j1 = s0.toNat := by omega
  subst ej
  have k1 := (Eq.mp hp_336 m2) s0.toNat (by omega)
  rw [m3.2] at k1
  have z := mx_u (hmC_0 hG) hp hj (by omega) x3 k1.symm
  rw [show max s1 s2 = s1 by omega] at z
  exact ⟨Eq.mpr hp_326 ⟨0, by omega, by omega, z⟩, trivial⟩
theorem rul_875 : Rul r_875 := by
  refine ⟨fun _ ρ M hm hB hF hG => ?_, fun gi gv hg => (by cases hg)⟩
  have H := cr_875 M (ρ 0) (ρ 1) (ρ 2) (hB _ List.mem_cons_self) (hB _ (List.mem_cons_of_mem _ List.mem_cons_self)) (hB _ (List.mem_cons_of_mem _ (List.mem_cons_of_mem _ List.mem_cons_self))) (cvp 325 (x' := ((ρ 0))) (y' := ((ρ 1))) (by show 0 + (1 * ρ 0 + 0) = _; omega) (by show 0 + (1 * ρ 1 + 0) = _; omega) (hm _ List.mem_cons_self)) (cvm (c := 59) (by decide) (x' := (5 : Int)) (y' := ((ρ 0))) (by show 5 + 0 = _; omega) (by show 0 + (1 * ρ 0 + 0) = _; omega) (hm _ (List.mem_cons_of_mem _ List.mem_cons_self))) (cvp 336 (x' := (0 : Int)) (y' := (0 : Int)) (by show 0 + 0 = _; omega) (by show 0 + 0 = _; omega) (hm _ (List.mem_cons_of_mem _ (List.mem_cons_of_mem _ List.mem_cons_self)))) (cvm (c := 58) (by decide) (x' := ((ρ 0))) (y' := ((ρ 2))) (by show 0 + (1 * ρ 0 + 0) = _; omega) (by show 0 + (1 * ρ 2 + 0) = _; omega) (hm _ (List.mem_cons_of_mem _ (List.mem_cons_of_mem _ (List.mem_cons_of_mem _ List.mem_cons_self))))) (by have h := hF _ List.mem_cons_self; have h : 0 ≤ 0 + (1 * ρ 1 + ((-1) * ρ 2 + 0)) := h; omega) hG
  obtain ⟨k0, -⟩ := H
  exact ⟨_, List.mem_cons_self, ρ, fun _ _ => rfl, (okM_c (pvp 326 (by show 0 + 0 = _; omega) (by show 0 + (1 * ρ 1 + 0) = _; omega) k0) okM_n), okB_n, okF_n⟩
-- gm1_5
theorem cr_876 (M : pM) (s0 s1 s2 : Int) (b0 : 0 ≤ s0 ∧ s0 ≤ 2) (b1 : 0 ≤ s1 ∧ s1 ≤ 35640) (b2 : (-2147483648) ≤ s2 ∧ s2 ≤ 2147483647) (m0 : HP 325 (s0) (s1) M) (m1 : (0 ≤ (5 : Int) ∧ M 59 (5 : Int).toNat = (s0))) (m2 : HP 336 (0 : Int) (0 : Int) M) (m3 : (0 ≤ (s0) ∧ M 58 (s0).toNat = (s2))) (f0 : 0 ≤ ((-1) * s1 + s2 - 1)) (hG : gI M) : (HP 326 (0 : Int) (s2) M ∧ True) := by
  obtain ⟨j1, x1, x2, x3⟩ := Eq.mp hp_325 m0
  have hj : hrow 59 6 M 5 = s0.toNat := hrow_v (by decide) (by have h : M 59 5 = s0 := m1.2; rw [h]; omega)
  have hp : ∀ o, o < 5 → hrow 59 6 M o = hrow 59 5 M o := fun o ho => hrow_lt ho (by decide)
  have ej : j1 = s0.toNat := by omega
  subst ej
  have k1 := (Eq.mp hp_336 m2) s0.toNat (by omega)
  rw [m3.2] at k1
  have z := mx_u (hmC_0 hG) hp hj (by omega) x3 k1.symm
  rw [show max s1 s2 = s2 by omega] at z
  exact ⟨Eq.mpr hp_326 ⟨0, by omega, by omega, z⟩, trivial⟩
theorem rul_876 : Rul r_876 := by
  refine ⟨fun _ ρ M hm hB hF hG => ?_, fun gi gv hg => (by cases hg)⟩
  have H := cr_876 M (ρ 0) (ρ 1) (ρ 2) (hB _ List.mem_cons_self) (hB _ (List.mem_cons_of_mem _ List.mem_cons_self)) (hB _ (List.mem_cons_of_mem _ (List.mem_cons_of_mem _ List.mem_cons_self))) (cvp 325 (x' := ((ρ 0))) (y' := ((ρ 1))) (by show 0 + (1 * ρ 0 + 0) = _; omega) (by show 0 + (1 * ρ 1 + 0) = _; omega) (hm _ List.mem_cons_self)) (cvm (c := 59) (by decide) (x' := (5 : Int)) (y' := ((ρ 0))) (by show 5 + 0 = _; omega) (by show 0 + (1 * ρ 0 + 0) = _; omega) (hm _ (List.mem_cons_of_mem _ List.mem_cons_self))) (cvp 336 (x' := (0 : Int)) (y' := (0 : Int)) (by show 0 + 0 = _; omega) (by show 0 + 0 = _; omega) (hm _ (List.mem_cons_of_mem _ (List.mem_cons_of_mem _ List.mem_cons_self)))) (cvm (c := 58) (by decide) (x' := ((ρ 0))) (y' := ((ρ 2))) (by show 0 + (1 * ρ 0 + 0) = _; omega) (by show 0 + (1 * ρ 2 + 0) = _; omega) (hm _ (List.mem_cons_of_mem _ (List.mem_cons_of_mem _ (List.mem_cons_of_mem _ List.mem_cons_self))))) (by have h := hF _ List.mem_cons_self; have h : 0 ≤ (-1) + ((-1) * ρ 1 + (1 * ρ 2 + 0)) := h; omega) hG
  obtain ⟨k0, -⟩ := H
  exact ⟨_, List.mem_cons_self, ρ, fun _ _ => rfl, (okM_c (pvp 326 (by show 0 + 0 = _; omega) (by show 0 + (1 * ρ 2 + 0) = _; omega) k0) okM_n), okB_n, okF_n⟩
-- gs5
theorem cr_877 (M : pM) (s0 s1 s2 s3 : Int) (b0 : 0 ≤ s0 ∧ s0 ≤ 2) (b1 : 0 ≤ s1 ∧ s1 ≤ 63) (b2 : 0 ≤ s2 ∧ s2 ≤ 1980) (b3 : (-2147483648) ≤ s3 ∧ s3 ≤ 2147483647) (m0 : HP 336 (0 : Int) (0 : Int) M) (m1 : (0 ≤ (s0) ∧ M 58 (s0).toNat = (s3))) (m2 : (0 ≤ (5 : Int) ∧ M 59 (5 : Int).toNat = (s0))) (m3 : (0 ≤ (5 : Int) ∧ M 56 (5 : Int).toNat = (s1))) (m4 : (0 ≤ (s1) ∧ M 57 (s1).toNat = (s2))) (hG : gI M) : (HP 335 (0 : Int) (0 : Int) (st M 58 (s0).toNat ((-2) * s2 + s3)) ∧ True) := by
  have hj : hrow 59 6 M 5 = s0.toNat := hrow_v (by decide) (by have h : M 59 5 = s0 := m2.2; rw [h]; omega)
  have hp : ∀ o, o < 5 → hrow 59 6 M o = hrow 59 5 M o := fun o ho => hrow_lt ho (by decide)
  have hz : 2 * s2 = hmC M 5 := (hmC_v (o := 5) (c := s1.toNat) (by decide) (by omega) (by have h : M 56 5 = s1 := m3.2; rw [h]; omega) m4.2).symm
  have hl := Eq.mp hp_336 m0
  refine ⟨Eq.mpr hp_335 (fun a ha => ?_), trivial⟩
  rw [hmC_st (by decide) (by decide), hrow_st (by decide)]
  exact ld_d (R := fun a => M 58 a) (R' := fun a => st M 58 (s0).toNat ((-2) * s2 + s3) 58 a) hp hj hl (fun a ha => by
      show st M 58 (s0).toNat ((-2) * s2 + s3) 58 a = if a = s0.toNat then M 58 s0.toNat - 2 * s2 else M 58 a
      rw [hst_v]
      by_cases e : a = s0.toNat
      · rw [if_pos e, if_pos e, m1.2]; omega
      · rw [if_neg e, if_neg e]) hz (by omega) a ha
theorem rul_877 : Rul r_877 := by
  refine ⟨fun h => (by cases h), fun gi gv hg ρ M hm hB hF hG => ?_⟩
  obtain ⟨g1, g2⟩ := List.cons.inj (show ([aI ((0 : Int), ([(0, 1)] : List (Nat × Int))), aI ((0 : Int), ([(2, (-2)), (3, 1)] : List (Nat × Int)))] : List av) = [.inl gi, .inl gv] from hg)
  obtain ⟨g2, -⟩ := List.cons.inj g2
  cases g1
  cases g2
  have ei : ev ρ ((0 : Int), ([(0, 1)] : List (Nat × Int))) = ((ρ 0)) := by show 0 + (1 * ρ 0 + 0) = _; omega
  have ew : ev ρ ((0 : Int), ([(2, (-2)), (3, 1)] : List (Nat × Int))) = ((-2) * (ρ 2) + (ρ 3)) := by show 0 + ((-2) * ρ 2 + (1 * ρ 3 + 0)) = _; omega
  rw [show (st M (ctj r_877) (ev ρ ((0 : Int), ([(0, 1)] : List (Nat × Int)))).toNat (ev ρ ((0 : Int), ([(2, (-2)), (3, 1)] : List (Nat × Int))))) = (st M 58 ((ρ 0)).toNat ((-2) * (ρ 2) + (ρ 3))) from by rw [ei, ew]; rfl]
  have H := cr_877 M (ρ 0) (ρ 1) (ρ 2) (ρ 3) (hB _ List.mem_cons_self) (hB _ (List.mem_cons_of_mem _ List.mem_cons_self)) (hB _ (List.mem_cons_of_mem _ (List.mem_cons_of_mem _ List.mem_cons_self))) (hB _ (List.mem_cons_of_mem _ (List.mem_cons_of_mem _ (List.mem_cons_of_mem _ List.mem_cons_self)))) (cvp 336 (x' := (0 : Int)) (y' := (0 : Int)) (by show 0 + 0 = _; omega) (by show 0 + 0 = _; omega) (hm _ List.mem_cons_self)) (cvm (c := 58) (by decide) (x' := ((ρ 0))) (y' := ((ρ 3))) (by show 0 + (1 * ρ 0 + 0) = _; omega) (by show 0 + (1 * ρ 3 + 0) = _; omega) (hm _ (List.mem_cons_of_mem _ List.mem_cons_self))) (cvm (c := 59) (by decide) (x' := (5 : Int)) (y' := ((ρ 0))) (by show 5 + 0 = _; omega) (by show 0 + (1 * ρ 0 + 0) = _; omega) (hm _ (List.mem_cons_of_mem _ (List.mem_cons_of_mem _ List.mem_cons_self)))) (cvm (c := 56) (by decide) (x' := (5 : Int)) (y' := ((ρ 1))) (by show 5 + 0 = _; omega) (by show 0 + (1 * ρ 1 + 0) = _; omega) (hm _ (List.mem_cons_of_mem _ (List.mem_cons_of_mem _ (List.mem_cons_of_mem _ List.mem_cons_self))))) (cvm (c := 57) (by decide) (x' := ((ρ 1))) (y' := ((ρ 2))) (by show 0 + (1 * ρ 1 + 0) = _; omega) (by show 0 + (1 * ρ 2 + 0) = _; omega) (hm _ (List.mem_cons_of_mem _ (List.mem_cons_of_mem _ (List.mem_cons_of_mem _ (List.mem_cons_of_mem _ List.mem_cons_self)))))) hG
  obtain ⟨k0, -⟩ := H
  exact ⟨_, List.mem_cons_self, ρ, fun _ _ => rfl, (okM_c (pvp 335 (by show 0 + 0 = _; omega) (by show 0 + 0 = _; omega) k0) okM_n), okB_n, okF_n⟩
-- gsb5
theorem cr_878 (M : pM) (s0 s1 s2 s3 : Int) (b0 : 0 ≤ s0 ∧ s0 ≤ 2) (b1 : 0 ≤ s1 ∧ s1 ≤ 63) (b2 : 0 ≤ s2 ∧ s2 ≤ 1980) (b3 : (-2147483648) ≤ s3 ∧ s3 ≤ 2147483647) (m0 : HP 336 (0 : Int) (0 : Int) M) (m1 : (0 ≤ (s0) ∧ M 58 (s0).toNat = (s3))) (m2 : (0 ≤ (5 : Int) ∧ M 59 (5 : Int).toNat = (s0))) (m3 : (0 ≤ (5 : Int) ∧ M 56 (5 : Int).toNat = (s1))) (m4 : (0 ≤ (s1) ∧ M 57 (s1).toNat = (s2))) (hG : gI M) : (0 ≤ ((-2) * s2 + s3) ∧ True) := by
  have hj : hrow 59 6 M 5 = s0.toNat := hrow_v (by decide) (by have h : M 59 5 = s0 := m2.2; rw [h]; omega)
  have hp : ∀ o, o < 5 → hrow 59 6 M o = hrow 59 5 M o := fun o ho => hrow_lt ho (by decide)
  have hz : 2 * s2 = hmC M 5 := (hmC_v (o := 5) (c := s1.toNat) (by decide) (by omega) (by have h : M 56 5 = s1 := m3.2; rw [h]; omega) m4.2).symm
  have k1 := (Eq.mp hp_336 m0) s0.toNat (by omega)
  rw [m1.2] at k1
  have k2 : hps (hmC M) (hrow 59 6 M) s0.toNat 6 = hps (hmC M) (hrow 59 6 M) s0.toNat 5 + (if hrow 59 6 M 5 = s0.toNat then hmC M 5 else 0) := rfl
  rw [hj, if_pos rfl] at k2
  have k3 := hps_0 (t := hrow 59 6 M) (a := s0.toNat) (hmC_0 hG) 5
  exact ⟨by omega, trivial⟩
theorem rul_878 : Rul r_878 := by
  refine ⟨fun _ ρ M hm hB hF hG => ?_, fun gi gv hg => (by cases hg)⟩
  have H := cr_878 M (ρ 0) (ρ 1) (ρ 2) (ρ 3) (hB _ List.mem_cons_self) (hB _ (List.mem_cons_of_mem _ List.mem_cons_self)) (hB _ (List.mem_cons_of_mem _ (List.mem_cons_of_mem _ List.mem_cons_self))) (hB _ (List.mem_cons_of_mem _ (List.mem_cons_of_mem _ (List.mem_cons_of_mem _ List.mem_cons_self)))) (cvp 336 (x' := (0 : Int)) (y' := (0 : Int)) (by show 0 + 0 = _; omega) (by show 0 + 0 = _; omega) (hm _ List.mem_cons_self)) (cvm (c := 58) (by decide) (x' := ((ρ 0))) (y' := ((ρ 3))) (by show 0 + (1 * ρ 0 + 0) = _; omega) (by show 0 + (1 * ρ 3 + 0) = _; omega) (hm _ (List.mem_cons_of_mem _ List.mem_cons_self))) (cvm (c := 59) (by decide) (x' := (5 : Int)) (y' := ((ρ 0))) (by show 5 + 0 = _; omega) (by show 0 + (1 * ρ 0 + 0) = _; omega) (hm _ (List.mem_cons_of_mem _ (List.mem_cons_of_mem _ List.mem_cons_self)))) (cvm (c := 56) (by decide) (x' := (5 : Int)) (y' := ((ρ 1))) (by show 5 + 0 = _; omega) (by show 0 + (1 * ρ 1 + 0) = _; omega) (hm _ (List.mem_cons_of_mem _ (List.mem_cons_of_mem _ (List.mem_cons_of_mem _ List.mem_cons_self))))) (cvm (c := 57) (by decide) (x' := ((ρ 1))) (y' := ((ρ 2))) (by show 0 + (1 * ρ 1 + 0) = _; omega) (by show 0 + (1 * ρ 2 + 0) = _; omega) (hm _ (List.mem_cons_of_mem _ (List.mem_cons_of_mem _ (List.mem_cons_of_mem _ (List.mem_cons_of_mem _ List.mem_cons_self)))))) hG
  obtain ⟨f0, -⟩ := H
  exact ⟨_, List.mem_cons_self, ρ, fun _ _ => rfl, okM_n, okB_n, (okF_c (by show 0 ≤ 0 + ((-2) * ρ 2 + (1 * ρ 3 + 0)); omega) okF_n)⟩
-- gn5
theorem cr_879 (M : pM) (s0 s1 s2 : Int) (b0 : 0 ≤ s0 ∧ s0 ≤ 2) (b1 : 1 ≤ s1 ∧ s1 ≤ 3) (b2 : 0 ≤ s2 ∧ s2 ≤ 9) (m0 : HP 316 (s1) (s1) M) (m1 : (0 ≤ (5 : Int) ∧ M 59 (5 : Int).toNat = (s0))) (m2 : (0 ≤ (1 : Int) ∧ M 55 (1 : Int).toNat = (s2))) (f0 : 0 ≤ ((-1) * s0 + s1 - 1)) (f1 : 0 ≤ (s2 - 6)) (hG : gI M) : (HP 315 (s0 + 1) (s1) M ∧ True) := by
  obtain ⟨j0, T0, t1, t2, t3, t4, t5, t6, t7⟩ := Eq.mp hp_316 m0
  have hj : hrow 59 6 M 5 = s0.toNat := hrow_v (by decide) (by have h : M 59 5 = s0 := m1.2; rw [h]; omega)
  have hp : ∀ o, o < 5 → hrow 59 6 M o = hrow 59 5 M o := fun o ho => hrow_lt ho (by decide)
  have en : hnC M = s2.toNat := hnC_v (by omega) (by have h : M 55 1 = s2 := m2.2; rw [h]; omega)
  have ej : j0 = T0 := by omega
  subst ej
  exact ⟨Eq.mpr hp_315 ⟨s0.toNat + 1, j0, t1, t2, by omega, by omega, by omega, fun o ho => by rw [← hp o ho]; exact t6 o (by omega), hj_up hp hj (by omega) (by rw [en]; omega) t7⟩, trivial⟩
theorem rul_879 : Rul r_879 := by
  refine ⟨fun _ ρ M hm hB hF hG => ?_, fun gi gv hg => (by cases hg)⟩
  have H := cr_879 M (ρ 0) (ρ 1) (ρ 2) (hB _ List.mem_cons_self) (hB _ (List.mem_cons_of_mem _ List.mem_cons_self)) (hB _ (List.mem_cons_of_mem _ (List.mem_cons_of_mem _ List.mem_cons_self))) (cvp 316 (x' := ((ρ 1))) (y' := ((ρ 1))) (by show 0 + (1 * ρ 1 + 0) = _; omega) (by show 0 + (1 * ρ 1 + 0) = _; omega) (hm _ List.mem_cons_self)) (cvm (c := 59) (by decide) (x' := (5 : Int)) (y' := ((ρ 0))) (by show 5 + 0 = _; omega) (by show 0 + (1 * ρ 0 + 0) = _; omega) (hm _ (List.mem_cons_of_mem _ List.mem_cons_self))) (cvm (c := 55) (by decide) (x' := (1 : Int)) (y' := ((ρ 2))) (by show 1 + 0 = _; omega) (by show 0 + (1 * ρ 2 + 0) = _; omega) (hm _ (List.mem_cons_of_mem _ (List.mem_cons_of_mem _ List.mem_cons_self)))) (by have h := hF _ List.mem_cons_self; have h : 0 ≤ (-1) + ((-1) * ρ 0 + (1 * ρ 1 + 0)) := h; omega) (by have h := hF _ (List.mem_cons_of_mem _ List.mem_cons_self); have h : 0 ≤ (-6) + (1 * ρ 2 + 0) := h; omega) hG
  obtain ⟨k0, -⟩ := H
  exact ⟨_, List.mem_cons_self, ρ, fun _ _ => rfl, (okM_c (pvp 315 (by show 1 + (1 * ρ 0 + 0) = _; omega) (by show 0 + (1 * ρ 1 + 0) = _; omega) k0) okM_n), okB_n, okF_n⟩
-- ge5
theorem cr_880 (M : pM) (s0 s1 s2 s3 s4 : Int) (b0 : 0 ≤ s0 ∧ s0 ≤ 2) (b1 : 1 ≤ s1 ∧ s1 ≤ 3) (b2 : 0 ≤ s2 ∧ s2 ≤ 35640) (b3 : 0 ≤ s3 ∧ s3 ≤ 0) (b4 : 0 ≤ s4 ∧ s4 ≤ 9) (m0 : HP 315 (s0 + 1) (s1) M) (m1 : HP 335 (0 : Int) (0 : Int) M) (m2 : (0 ≤ (s0) ∧ M 58 (s0).toNat = (s3))) (m3 : HP 325 (s0) (s2) M) (m4 : (0 ≤ (1 : Int) ∧ M 55 (1 : Int).toNat = (s4))) (f0 : 0 ≤ (s4 - 6)) (f1 : 0 ≤ ((-1) * s0 + s1 - 1)) (hG : gI M) : (HP 315 (s1) (s1) M ∧ True) := by
  obtain ⟨j0, T0, t1, t2, t3, t4, t5, t6, t7⟩ := Eq.mp hp_315 m0
  obtain ⟨j1, x1, x2, x3⟩ := Eq.mp hp_325 m3
  have en : hnC M = s4.toNat := hnC_v (by omega) (by have h : M 55 1 = s4 := m4.2; rw [h]; omega)
  have ej : j1 = s0.toNat := by omega
  subst ej
  have ek : j0 = s0.toNat + 1 := by omega
  subst ek
  have k1 := (Eq.mp hp_335 m1) s0.toNat (by omega)
  rw [m2.2] at k1
  exact ⟨Eq.mpr hp_315 ⟨T0, T0, t1, t2, Nat.le_refl _, by omega, by omega, t6, hj_sw (by rw [en]; omega) (by omega) t2 t7 x3 (by omega)⟩, trivial⟩
theorem rul_880 : Rul r_880 := by
  refine ⟨fun _ ρ M hm hB hF hG => ?_, fun gi gv hg => (by cases hg)⟩
  have H := cr_880 M (ρ 0) (ρ 1) (ρ 2) (ρ 3) (ρ 4) (hB _ List.mem_cons_self) (hB _ (List.mem_cons_of_mem _ List.mem_cons_self)) (hB _ (List.mem_cons_of_mem _ (List.mem_cons_of_mem _ List.mem_cons_self))) (hB _ (List.mem_cons_of_mem _ (List.mem_cons_of_mem _ (List.mem_cons_of_mem _ List.mem_cons_self)))) (hB _ (List.mem_cons_of_mem _ (List.mem_cons_of_mem _ (List.mem_cons_of_mem _ (List.mem_cons_of_mem _ List.mem_cons_self))))) (cvp 315 (x' := ((ρ 0) + 1)) (y' := ((ρ 1))) (by show 1 + (1 * ρ 0 + 0) = _; omega) (by show 0 + (1 * ρ 1 + 0) = _; omega) (hm _ List.mem_cons_self)) (cvp 335 (x' := (0 : Int)) (y' := (0 : Int)) (by show 0 + 0 = _; omega) (by show 0 + 0 = _; omega) (hm _ (List.mem_cons_of_mem _ List.mem_cons_self))) (cvm (c := 58) (by decide) (x' := ((ρ 0))) (y' := ((ρ 3))) (by show 0 + (1 * ρ 0 + 0) = _; omega) (by show 0 + (1 * ρ 3 + 0) = _; omega) (hm _ (List.mem_cons_of_mem _ (List.mem_cons_of_mem _ List.mem_cons_self)))) (cvp 325 (x' := ((ρ 0))) (y' := ((ρ 2))) (by show 0 + (1 * ρ 0 + 0) = _; omega) (by show 0 + (1 * ρ 2 + 0) = _; omega) (hm _ (List.mem_cons_of_mem _ (List.mem_cons_of_mem _ (List.mem_cons_of_mem _ List.mem_cons_self))))) (cvm (c := 55) (by decide) (x' := (1 : Int)) (y' := ((ρ 4))) (by show 1 + 0 = _; omega) (by show 0 + (1 * ρ 4 + 0) = _; omega) (hm _ (List.mem_cons_of_mem _ (List.mem_cons_of_mem _ (List.mem_cons_of_mem _ (List.mem_cons_of_mem _ List.mem_cons_self)))))) (by have h := hF _ List.mem_cons_self; have h : 0 ≤ (-6) + (1 * ρ 4 + 0) := h; omega) (by have h := hF _ (List.mem_cons_of_mem _ List.mem_cons_self); have h : 0 ≤ (-1) + ((-1) * ρ 0 + (1 * ρ 1 + 0)) := h; omega) hG
  obtain ⟨k0, -⟩ := H
  exact ⟨_, List.mem_cons_self, ρ, fun _ _ => rfl, (okM_c (pvp 315 (by show 0 + (1 * ρ 1 + 0) = _; omega) (by show 0 + (1 * ρ 1 + 0) = _; omega) k0) okM_n), okB_n, okF_n⟩
-- gz5
theorem cr_881 (M : pM) (s0 s1 s2 : Int) (b0 : 0 ≤ s0 ∧ s0 ≤ 2) (b1 : 0 ≤ s1 ∧ s1 ≤ 35640) (b2 : (-2147483648) ≤ s2 ∧ s2 ≤ 2147483647) (m0 : HP 325 (s0) (s1) M) (m1 : HP 335 (0 : Int) (0 : Int) M) (m2 : (0 ≤ (s0) ∧ M 58 (s0).toNat = (s2))) (f0 : 0 ≤ (s2 - 1)) (hG : gI M) : (HP 325 (s0 + 1) (s1) M ∧ True) := by
  obtain ⟨j1, x1, x2, x3⟩ := Eq.mp hp_325 m0
  have ej : j1 = s0.toNat := by omega
  subst ej
  have k1 := (Eq.mp hp_335 m1) s0.toNat (by omega)
  rw [m2.2] at k1
  exact ⟨Eq.mpr hp_325 ⟨s0.toNat + 1, by omega, by omega, mx_z x3 (by omega)⟩, trivial⟩
theorem rul_881 : Rul r_881 := by
  refine ⟨fun _ ρ M hm hB hF hG => ?_, fun gi gv hg => (by cases hg)⟩
  have H := cr_881 M (ρ 0) (ρ 1) (ρ 2) (hB _ List.mem_cons_self) (hB _ (List.mem_cons_of_mem _ List.mem_cons_self)) (hB _ (List.mem_cons_of_mem _ (List.mem_cons_of_mem _ List.mem_cons_self))) (cvp 325 (x' := ((ρ 0))) (y' := ((ρ 1))) (by show 0 + (1 * ρ 0 + 0) = _; omega) (by show 0 + (1 * ρ 1 + 0) = _; omega) (hm _ List.mem_cons_self)) (cvp 335 (x' := (0 : Int)) (y' := (0 : Int)) (by show 0 + 0 = _; omega) (by show 0 + 0 = _; omega) (hm _ (List.mem_cons_of_mem _ List.mem_cons_self))) (cvm (c := 58) (by decide) (x' := ((ρ 0))) (y' := ((ρ 2))) (by show 0 + (1 * ρ 0 + 0) = _; omega) (by show 0 + (1 * ρ 2 + 0) = _; omega) (hm _ (List.mem_cons_of_mem _ (List.mem_cons_of_mem _ List.mem_cons_self)))) (by have h := hF _ List.mem_cons_self; have h : 0 ≤ (-1) + (1 * ρ 2 + 0) := h; omega) hG
  obtain ⟨k0, -⟩ := H
  exact ⟨_, List.mem_cons_self, ρ, fun _ _ => rfl, (okM_c (pvp 325 (by show 1 + (1 * ρ 0 + 0) = _; omega) (by show 0 + (1 * ρ 1 + 0) = _; omega) k0) okM_n), okB_n, okF_n⟩
-- gf5
theorem cr_882 (M : pM) (s0 s1 : Int) (b0 : 0 ≤ s0 ∧ s0 ≤ 3) (b1 : 1 ≤ s1 ∧ s1 ≤ 3) (m0 : HP 315 (s0) (s1) M) (f0 : 0 ≤ (s0 + (-1) * s1)) (f1 : 0 ≤ ((-1) * s0 + s1)) (hG : gI M) : (HP 315 (s1) (s1) M ∧ True) := by
  obtain ⟨j0, T0, t1, t2, t3, t4, t5, t6, t7⟩ := Eq.mp hp_315 m0
  have ej : j0 = T0 := by omega
  subst ej
  exact ⟨Eq.mpr hp_315 ⟨j0, j0, t1, t2, Nat.le_refl _, by omega, by omega, t6, t7⟩, trivial⟩
theorem rul_882 : Rul r_882 := by
  refine ⟨fun _ ρ M hm hB hF hG => ?_, fun gi gv hg => (by cases hg)⟩
  have H := cr_882 M (ρ 0) (ρ 1) (hB _ List.mem_cons_self) (hB _ (List.mem_cons_of_mem _ List.mem_cons_self)) (cvp 315 (x' := ((ρ 0))) (y' := ((ρ 1))) (by show 0 + (1 * ρ 0 + 0) = _; omega) (by show 0 + (1 * ρ 1 + 0) = _; omega) (hm _ List.mem_cons_self)) (by have h := hF _ List.mem_cons_self; have h : 0 ≤ 0 + (1 * ρ 0 + ((-1) * ρ 1 + 0)) := h; omega) (by have h := hF _ (List.mem_cons_of_mem _ List.mem_cons_self); have h : 0 ≤ 0 + ((-1) * ρ 0 + (1 * ρ 1 + 0)) := h; omega) hG
  obtain ⟨k0, -⟩ := H
  exact ⟨_, List.mem_cons_self, ρ, fun _ _ => rfl, (okM_c (pvp 315 (by show 0 + (1 * ρ 1 + 0) = _; omega) (by show 0 + (1 * ρ 1 + 0) = _; omega) k0) okM_n), okB_n, okF_n⟩
-- gb5
theorem cr_883 (M : pM) (s0 s1 s2 : Int) (b0 : 0 ≤ s0 ∧ s0 ≤ 35640) (b1 : 0 ≤ s1 ∧ s1 ≤ 3) (b2 : 0 ≤ s2 ∧ s2 ≤ 9) (m0 : HP 325 (s1) (s0) M) (m1 : HP 342 (s2) (0 : Int) M) (f0 : 0 ≤ (s2 - 5)) (hG : gI M) : (0 ≤ ((-1) * s0 + 19800) ∧ True) := by
  obtain ⟨j1, x1, x2, x3⟩ := Eq.mp hp_325 m0
  obtain ⟨h1, h2, h3⟩ := Eq.mp hp_342 m1
  obtain ⟨a, a1, a2⟩ := x3.2.1
  have k := hps_b (m := hmC M) (t := (hrow 59 5 M)) (a := a) (K := 3960) (by decide) (g := 5) (fun o ho => h3 o (by omega))
  rw [a2] at k
  exact ⟨by omega, trivial⟩
theorem rul_883 : Rul r_883 := by
  refine ⟨fun _ ρ M hm hB hF hG => ?_, fun gi gv hg => (by cases hg)⟩
  have H := cr_883 M (ρ 0) (ρ 1) (ρ 2) (hB _ List.mem_cons_self) (hB _ (List.mem_cons_of_mem _ List.mem_cons_self)) (hB _ (List.mem_cons_of_mem _ (List.mem_cons_of_mem _ List.mem_cons_self))) (cvp 325 (x' := ((ρ 1))) (y' := ((ρ 0))) (by show 0 + (1 * ρ 1 + 0) = _; omega) (by show 0 + (1 * ρ 0 + 0) = _; omega) (hm _ List.mem_cons_self)) (cvp 342 (x' := ((ρ 2))) (y' := (0 : Int)) (by show 0 + (1 * ρ 2 + 0) = _; omega) (by show 0 + 0 = _; omega) (hm _ (List.mem_cons_of_mem _ List.mem_cons_self))) (by have h := hF _ List.mem_cons_self; have h : 0 ≤ (-5) + (1 * ρ 2 + 0) := h; omega) hG
  obtain ⟨f0, -⟩ := H
  exact ⟨_, List.mem_cons_self, ρ, fun _ _ => rfl, okM_n, okB_n, (okF_c (by show 0 ≤ 19800 + ((-1) * ρ 0 + 0); omega) okF_n)⟩
-- gpr6
theorem cr_884 (M : pM) (s0 s1 s2 s3 : Int) (b0 : 1 ≤ s0 ∧ s0 ≤ 3) (b1 : 0 ≤ s1 ∧ s1 ≤ 35640) (b2 : 0 ≤ s2 ∧ s2 ≤ 9) (b3 : 0 ≤ s3 ∧ s3 ≤ 1000000) (m0 : HP 316 (0 : Int) (s0) M) (m1 : HP 326 (0 : Int) (s1) M) (m2 : (0 ≤ (1 : Int) ∧ M 55 (1 : Int).toNat = (s2))) (m3 : (0 ≤ (6 : Int) ∧ M 55 (6 : Int).toNat = (s3))) (f0 : 0 ≤ (s1 + (-1) * s3)) (f1 : 0 ≤ (s2 - 6)) (hG : gI M) : (HP 316 (s0) (s0) M ∧ True) := by
  obtain ⟨j0, T0, t1, t2, t3, t4, t5, t6, t7⟩ := Eq.mp hp_316 m0
  obtain ⟨j1, x1, x2, x3⟩ := Eq.mp hp_326 m1
  have en : hnC M = s2.toNat := hnC_v (by omega) (by have h : M 55 1 = s2 := m2.2; rw [h]; omega)
  have eb : M 55 6 = s3 := m3.2
  have ej : j0 = 0 := by omega
  subst ej
  exact ⟨Eq.mpr hp_316 ⟨T0, T0, t1, t2, Nat.le_refl _, by omega, by omega, t6, hj_pr (hmC_0 hG) (by rw [en]; omega) t7 x3 (by rw [eb]; omega)⟩, trivial⟩
theorem rul_884 : Rul r_884 := by
  refine ⟨fun _ ρ M hm hB hF hG => ?_, fun gi gv hg => (by cases hg)⟩
  have H := cr_884 M (ρ 0) (ρ 1) (ρ 2) (ρ 3) (hB _ List.mem_cons_self) (hB _ (List.mem_cons_of_mem _ List.mem_cons_self)) (hB _ (List.mem_cons_of_mem _ (List.mem_cons_of_mem _ List.mem_cons_self))) (hB _ (List.mem_cons_of_mem _ (List.mem_cons_of_mem _ (List.mem_cons_of_mem _ List.mem_cons_self)))) (cvp 316 (x' := (0 : Int)) (y' := ((ρ 0))) (by show 0 + 0 = _; omega) (by show 0 + (1 * ρ 0 + 0) = _; omega) (hm _ List.mem_cons_self)) (cvp 326 (x' := (0 : Int)) (y' := ((ρ 1))) (by show 0 + 0 = _; omega) (by show 0 + (1 * ρ 1 + 0) = _; omega) (hm _ (List.mem_cons_of_mem _ List.mem_cons_self))) (cvm (c := 55) (by decide) (x' := (1 : Int)) (y' := ((ρ 2))) (by show 1 + 0 = _; omega) (by show 0 + (1 * ρ 2 + 0) = _; omega) (hm _ (List.mem_cons_of_mem _ (List.mem_cons_of_mem _ List.mem_cons_self)))) (cvm (c := 55) (by decide) (x' := (6 : Int)) (y' := ((ρ 3))) (by show 6 + 0 = _; omega) (by show 0 + (1 * ρ 3 + 0) = _; omega) (hm _ (List.mem_cons_of_mem _ (List.mem_cons_of_mem _ (List.mem_cons_of_mem _ List.mem_cons_self))))) (by have h := hF _ List.mem_cons_self; have h : 0 ≤ 0 + (1 * ρ 1 + ((-1) * ρ 3 + 0)) := h; omega) (by have h := hF _ (List.mem_cons_of_mem _ List.mem_cons_self); have h : 0 ≤ (-6) + (1 * ρ 2 + 0) := h; omega) hG
  obtain ⟨k0, -⟩ := H
  exact ⟨_, List.mem_cons_self, ρ, fun _ _ => rfl, (okM_c (pvp 316 (by show 0 + (1 * ρ 0 + 0) = _; omega) (by show 0 + (1 * ρ 0 + 0) = _; omega) k0) okM_n), okB_n, okF_n⟩
-- glf6
theorem cr_885 (M : pM) (s0 s1 s2 s3 : Int) (b0 : 1 ≤ s0 ∧ s0 ≤ 3) (b1 : 0 ≤ s1 ∧ s1 ≤ 35640) (b2 : 0 ≤ s2 ∧ s2 ≤ 9) (b3 : 0 ≤ s3 ∧ s3 ≤ 1000000) (m0 : HP 316 (0 : Int) (s0) M) (m1 : HP 326 (0 : Int) (s1) M) (m2 : (0 ≤ (1 : Int) ∧ M 55 (1 : Int).toNat = (s2))) (m3 : (0 ≤ (6 : Int) ∧ M 55 (6 : Int).toNat = (s3))) (f0 : 0 ≤ ((-1) * s1 + s3 - 1)) (f1 : 0 ≤ ((-1) * s2 + 6)) (f2 : 0 ≤ (s2 - 6)) (hG : gI M) : (HP 340 (s1) (s0) M ∧ True) := by
  obtain ⟨j0, T0, t1, t2, t3, t4, t5, t6, t7⟩ := Eq.mp hp_316 m0
  obtain ⟨j1, x1, x2, x3⟩ := Eq.mp hp_326 m1
  have en : hnC M = s2.toNat := hnC_v (by omega) (by have h : M 55 1 = s2 := m2.2; rw [h]; omega)
  have eb : M 55 6 = s3 := m3.2
  have ej : j0 = 0 := by omega
  subst ej
  have en2 : hnC M = 6 := by rw [en]; omega
  rw [en2] at t7
  obtain ⟨k1, k2⟩ := hj_lf t7 x3 (by rw [eb]; omega)
  exact ⟨Eq.mpr hp_340 ⟨T0, t1, t2, by omega, by rw [en2]; exact fun o ho => by rw [hrow_lt ho (by decide)]; exact t6 o ho, by rw [en2]; exact (hco_c (fun o ho => hrow_lt ho (by decide))).trans k1, by rw [en2]; exact fun t ht hl => k2 t ht (hlx_c hl (fun o ho => hrow_lt ho (by decide)))⟩, trivial⟩
theorem rul_885 : Rul r_885 := by
  refine ⟨fun _ ρ M hm hB hF hG => ?_, fun gi gv hg => (by cases hg)⟩
  have H := cr_885 M (ρ 0) (ρ 1) (ρ 2) (ρ 3) (hB _ List.mem_cons_self) (hB _ (List.mem_cons_of_mem _ List.mem_cons_self)) (hB _ (List.mem_cons_of_mem _ (List.mem_cons_of_mem _ List.mem_cons_self))) (hB _ (List.mem_cons_of_mem _ (List.mem_cons_of_mem _ (List.mem_cons_of_mem _ List.mem_cons_self)))) (cvp 316 (x' := (0 : Int)) (y' := ((ρ 0))) (by show 0 + 0 = _; omega) (by show 0 + (1 * ρ 0 + 0) = _; omega) (hm _ List.mem_cons_self)) (cvp 326 (x' := (0 : Int)) (y' := ((ρ 1))) (by show 0 + 0 = _; omega) (by show 0 + (1 * ρ 1 + 0) = _; omega) (hm _ (List.mem_cons_of_mem _ List.mem_cons_self))) (cvm (c := 55) (by decide) (x' := (1 : Int)) (y' := ((ρ 2))) (by show 1 + 0 = _; omega) (by show 0 + (1 * ρ 2 + 0) = _; omega) (hm _ (List.mem_cons_of_mem _ (List.mem_cons_of_mem _ List.mem_cons_self)))) (cvm (c := 55) (by decide) (x' := (6 : Int)) (y' := ((ρ 3))) (by show 6 + 0 = _; omega) (by show 0 + (1 * ρ 3 + 0) = _; omega) (hm _ (List.mem_cons_of_mem _ (List.mem_cons_of_mem _ (List.mem_cons_of_mem _ List.mem_cons_self))))) (by have h := hF _ List.mem_cons_self; have h : 0 ≤ (-1) + ((-1) * ρ 1 + (1 * ρ 3 + 0)) := h; omega) (by have h := hF _ (List.mem_cons_of_mem _ List.mem_cons_self); have h : 0 ≤ 6 + ((-1) * ρ 2 + 0) := h; omega) (by have h := hF _ (List.mem_cons_of_mem _ (List.mem_cons_of_mem _ List.mem_cons_self)); have h : 0 ≤ (-6) + (1 * ρ 2 + 0) := h; omega) hG
  obtain ⟨k0, -⟩ := H
  exact ⟨_, List.mem_cons_self, ρ, fun _ _ => rfl, (okM_c (pvp 340 (by show 0 + (1 * ρ 1 + 0) = _; omega) (by show 0 + (1 * ρ 0 + 0) = _; omega) k0) okM_n), okB_n, okF_n⟩
-- glx6
theorem cr_886 (M : pM) (s0 s1 s2 s3 : Int) (b0 : 1 ≤ s0 ∧ s0 ≤ 3) (b1 : 0 ≤ s1 ∧ s1 ≤ 35640) (b2 : 0 ≤ s2 ∧ s2 ≤ 9) (b3 : 0 ≤ s3 ∧ s3 ≤ 1000000) (m0 : HP 340 (s1) (s0) M) (m1 : HP 341 (s2) (0 : Int) M) (m2 : (0 ≤ (1 : Int) ∧ M 55 (1 : Int).toNat = (s2))) (m3 : (0 ≤ (6 : Int) ∧ M 55 (6 : Int).toNat = (s3))) (f0 : 0 ≤ ((-1) * s2 + 6)) (f1 : 0 ≤ (s2 - 6)) (f2 : 0 ≤ (s1 + (-1) * s3)) (f3 : 0 ≤ ((-1) * s1 + s3)) (hG : gI M) : (HP 316 (s0) (s0) M ∧ True) := by
  obtain ⟨T0, q1, q2, q3, q4, q5, q6⟩ := Eq.mp hp_340 m0
  have c2 := Eq.mp hp_341 m1
  have en : hnC M = s2.toNat := hnC_v (by omega) (by have h : M 55 1 = s2 := m2.2; rw [h]; omega)
  have eb : M 55 6 = s3 := m3.2
  have en2 : hnC M = 6 := by rw [en]; omega
  rw [en2] at q4 q5 q6
  exact ⟨Eq.mpr hp_316 ⟨T0, T0, q1, q2, Nat.le_refl _, by omega, by omega, fun o ho => by rw [← hrow_lt (k := 9) ho (by decide)]; exact q4 o ho, by
      rw [en2]
      exact hj_le (q := hrow 59 9 M) (fun o ho => hrow_lt ho (by decide)) (fun o ho => hrow_e (by omega) (c2 o (by omega) (by omega))) q4 (q5.trans (by rw [eb]; omega)) (fun t ht hl => by have := q6 t ht hl; rw [eb]; omega)⟩, trivial⟩
theorem rul_886 : Rul r_886 := by
  refine ⟨fun _ ρ M hm hB hF hG => ?_, fun gi gv hg => (by cases hg)⟩
  have H := cr_886 M (ρ 0) (ρ 1) (ρ 2) (ρ 3) (hB _ List.mem_cons_self) (hB _ (List.mem_cons_of_mem _ List.mem_cons_self)) (hB _ (List.mem_cons_of_mem _ (List.mem_cons_of_mem _ List.mem_cons_self))) (hB _ (List.mem_cons_of_mem _ (List.mem_cons_of_mem _ (List.mem_cons_of_mem _ List.mem_cons_self)))) (cvp 340 (x' := ((ρ 1))) (y' := ((ρ 0))) (by show 0 + (1 * ρ 1 + 0) = _; omega) (by show 0 + (1 * ρ 0 + 0) = _; omega) (hm _ List.mem_cons_self)) (cvp 341 (x' := ((ρ 2))) (y' := (0 : Int)) (by show 0 + (1 * ρ 2 + 0) = _; omega) (by show 0 + 0 = _; omega) (hm _ (List.mem_cons_of_mem _ List.mem_cons_self))) (cvm (c := 55) (by decide) (x' := (1 : Int)) (y' := ((ρ 2))) (by show 1 + 0 = _; omega) (by show 0 + (1 * ρ 2 + 0) = _; omega) (hm _ (List.mem_cons_of_mem _ (List.mem_cons_of_mem _ List.mem_cons_self)))) (cvm (c := 55) (by decide) (x' := (6 : Int)) (y' := ((ρ 3))) (by show 6 + 0 = _; omega) (by show 0 + (1 * ρ 3 + 0) = _; omega) (hm _ (List.mem_cons_of_mem _ (List.mem_cons_of_mem _ (List.mem_cons_of_mem _ List.mem_cons_self))))) (by have h := hF _ List.mem_cons_self; have h : 0 ≤ 6 + ((-1) * ρ 2 + 0) := h; omega) (by have h := hF _ (List.mem_cons_of_mem _ List.mem_cons_self); have h : 0 ≤ (-6) + (1 * ρ 2 + 0) := h; omega) (by have h := hF _ (List.mem_cons_of_mem _ (List.mem_cons_of_mem _ List.mem_cons_self)); have h : 0 ≤ 0 + (1 * ρ 1 + ((-1) * ρ 3 + 0)) := h; omega) (by have h := hF _ (List.mem_cons_of_mem _ (List.mem_cons_of_mem _ (List.mem_cons_of_mem _ List.mem_cons_self))); have h : 0 ≤ 0 + ((-1) * ρ 1 + (1 * ρ 3 + 0)) := h; omega) hG
  obtain ⟨k0, -⟩ := H
  exact ⟨_, List.mem_cons_self, ρ, fun _ _ => rfl, (okM_c (pvp 316 (by show 0 + (1 * ρ 0 + 0) = _; omega) (by show 0 + (1 * ρ 0 + 0) = _; omega) k0) okM_n), okB_n, okF_n⟩
-- gh6
theorem cr_887 (M : pM) (s0 s1 s2 : Int) (b0 : 0 ≤ s0 ∧ s0 ≤ 2) (b1 : 1 ≤ s1 ∧ s1 ≤ 3) (b2 : 0 ≤ s2 ∧ s2 ≤ 9) (m0 : HP 316 (s0) (s1) M) (m1 : (0 ≤ (6 : Int) ∧ M 59 (6 : Int).toNat = (s0))) (m2 : (0 ≤ (1 : Int) ∧ M 55 (1 : Int).toNat = (s2))) (f0 : 0 ≤ ((-1) * s0 + s1 - 1)) (f1 : 0 ≤ (s2 - 7)) (hG : gI M) : (HP 317 (0 : Int) (s1) M ∧ True) := by
  obtain ⟨j0, T0, t1, t2, t3, t4, t5, t6, t7⟩ := Eq.mp hp_316 m0
  have hj : hrow 59 7 M 6 = s0.toNat := hrow_v (by decide) (by have h : M 59 6 = s0 := m1.2; rw [h]; omega)
  have hp : ∀ o, o < 6 → hrow 59 7 M o = hrow 59 6 M o := fun o ho => hrow_lt ho (by decide)
  have en : hnC M = s2.toNat := hnC_v (by omega) (by have h : M 55 1 = s2 := m2.2; rw [h]; omega)
  have ej : j0 = s0.toNat := by omega
  subst ej
  exact ⟨Eq.mpr hp_317 ⟨0, T0, t1, t2, by omega, by omega, by omega, fun o ho => by
      by_cases e : o = 6
      · rw [e, hj]; omega
      · rw [hp o (by omega)]; exact t6 o (by omega), hj_dn t1 hp hj (by omega) t7⟩, trivial⟩
theorem rul_887 : Rul r_887 := by
  refine ⟨fun _ ρ M hm hB hF hG => ?_, fun gi gv hg => (by cases hg)⟩
  have H := cr_887 M (ρ 0) (ρ 1) (ρ 2) (hB _ List.mem_cons_self) (hB _ (List.mem_cons_of_mem _ List.mem_cons_self)) (hB _ (List.mem_cons_of_mem _ (List.mem_cons_of_mem _ List.mem_cons_self))) (cvp 316 (x' := ((ρ 0))) (y' := ((ρ 1))) (by show 0 + (1 * ρ 0 + 0) = _; omega) (by show 0 + (1 * ρ 1 + 0) = _; omega) (hm _ List.mem_cons_self)) (cvm (c := 59) (by decide) (x' := (6 : Int)) (y' := ((ρ 0))) (by show 6 + 0 = _; omega) (by show 0 + (1 * ρ 0 + 0) = _; omega) (hm _ (List.mem_cons_of_mem _ List.mem_cons_self))) (cvm (c := 55) (by decide) (x' := (1 : Int)) (y' := ((ρ 2))) (by show 1 + 0 = _; omega) (by show 0 + (1 * ρ 2 + 0) = _; omega) (hm _ (List.mem_cons_of_mem _ (List.mem_cons_of_mem _ List.mem_cons_self)))) (by have h := hF _ List.mem_cons_self; have h : 0 ≤ (-1) + ((-1) * ρ 0 + (1 * ρ 1 + 0)) := h; omega) (by have h := hF _ (List.mem_cons_of_mem _ List.mem_cons_self); have h : 0 ≤ (-7) + (1 * ρ 2 + 0) := h; omega) hG
  obtain ⟨k0, -⟩ := H
  exact ⟨_, List.mem_cons_self, ρ, fun _ _ => rfl, (okM_c (pvp 317 (by show 0 + 0 = _; omega) (by show 0 + (1 * ρ 1 + 0) = _; omega) k0) okM_n), okB_n, okF_n⟩
-- gld6
theorem cr_888 (M : pM) (s0 s1 s2 s3 : Int) (b0 : 0 ≤ s0 ∧ s0 ≤ 2) (b1 : (-2147483648) ≤ s1 ∧ s1 ≤ 2147483647) (b2 : 0 ≤ s2 ∧ s2 ≤ 3) (b3 : 0 ≤ s3 ∧ s3 ≤ 35640) (m0 : HP 336 (0 : Int) (0 : Int) M) (m1 : (0 ≤ (s0) ∧ M 58 (s0).toNat = (s1))) (m2 : HP 326 (s2) (s3) M) (hG : gI M) : (0 ≤ (s1) ∧ 0 ≤ ((-1) * s1 + s3) ∧ True) := by
  obtain ⟨j1, x1, x2, x3⟩ := Eq.mp hp_326 m2
  have k1 := (Eq.mp hp_336 m0) s0.toNat (by omega)
  rw [m1.2] at k1
  have k2 := hps_0 (t := (hrow 59 6 M)) (a := s0.toNat) (hmC_0 hG) 6
  have k3 := x3.1 s0.toNat (by omega)
  exact ⟨by omega, by omega, trivial⟩
theorem rul_888 : Rul r_888 := by
  refine ⟨fun _ ρ M hm hB hF hG => ?_, fun gi gv hg => (by cases hg)⟩
  have H := cr_888 M (ρ 0) (ρ 1) (ρ 2) (ρ 3) (hB _ List.mem_cons_self) (hB _ (List.mem_cons_of_mem _ List.mem_cons_self)) (hB _ (List.mem_cons_of_mem _ (List.mem_cons_of_mem _ List.mem_cons_self))) (hB _ (List.mem_cons_of_mem _ (List.mem_cons_of_mem _ (List.mem_cons_of_mem _ List.mem_cons_self)))) (cvp 336 (x' := (0 : Int)) (y' := (0 : Int)) (by show 0 + 0 = _; omega) (by show 0 + 0 = _; omega) (hm _ List.mem_cons_self)) (cvm (c := 58) (by decide) (x' := ((ρ 0))) (y' := ((ρ 1))) (by show 0 + (1 * ρ 0 + 0) = _; omega) (by show 0 + (1 * ρ 1 + 0) = _; omega) (hm _ (List.mem_cons_of_mem _ List.mem_cons_self))) (cvp 326 (x' := ((ρ 2))) (y' := ((ρ 3))) (by show 0 + (1 * ρ 2 + 0) = _; omega) (by show 0 + (1 * ρ 3 + 0) = _; omega) (hm _ (List.mem_cons_of_mem _ (List.mem_cons_of_mem _ List.mem_cons_self)))) hG
  obtain ⟨f0, f1, -⟩ := H
  exact ⟨_, List.mem_cons_self, ρ, fun _ _ => rfl, okM_n, okB_n, (okF_c (by show 0 ≤ 0 + (1 * ρ 1 + 0); omega) (okF_c (by show 0 ≤ 0 + ((-1) * ρ 1 + (1 * ρ 3 + 0)); omega) okF_n))⟩
-- gl6
theorem cr_889 (M : pM) (s0 s1 s2 s3 : Int) (b0 : 0 ≤ s0 ∧ s0 ≤ 2) (b1 : 0 ≤ s1 ∧ s1 ≤ 63) (b2 : 0 ≤ s2 ∧ s2 ≤ 1980) (b3 : 0 ≤ s3 ∧ s3 ≤ 35640) (m0 : HP 336 (0 : Int) (0 : Int) M) (m1 : (0 ≤ (s0) ∧ M 58 (s0).toNat = (s3))) (m2 : (0 ≤ (6 : Int) ∧ M 59 (6 : Int).toNat = (s0))) (m3 : (0 ≤ (6 : Int) ∧ M 56 (6 : Int).toNat = (s1))) (m4 : (0 ≤ (s1) ∧ M 57 (s1).toNat = (s2))) (hG : gI M) : (HP 337 (0 : Int) (0 : Int) (st M 58 (s0).toNat (2 * s2 + s3)) ∧ True) := by
  have hj : hrow 59 7 M 6 = s0.toNat := hrow_v (by decide) (by have h : M 59 6 = s0 := m2.2; rw [h]; omega)
  have hp : ∀ o, o < 6 → hrow 59 7 M o = hrow 59 6 M o := fun o ho => hrow_lt ho (by decide)
  have hz : 2 * s2 = hmC M 6 := (hmC_v (o := 6) (c := s1.toNat) (by decide) (by omega) (by have h : M 56 6 = s1 := m3.2; rw [h]; omega) m4.2).symm
  have hl := Eq.mp hp_336 m0
  refine ⟨Eq.mpr hp_337 (fun a ha => ?_), trivial⟩
  rw [hmC_st (by decide) (by decide), hrow_st (by decide)]
  exact ld_u (R := fun a => M 58 a) (R' := fun a => st M 58 (s0).toNat (2 * s2 + s3) 58 a) hp hj hl (fun a ha => by
      show st M 58 (s0).toNat (2 * s2 + s3) 58 a = if a = s0.toNat then M 58 s0.toNat + 2 * s2 else M 58 a
      rw [hst_v]
      by_cases e : a = s0.toNat
      · rw [if_pos e, if_pos e, m1.2]; omega
      · rw [if_neg e, if_neg e]) hz (by omega) a ha
theorem rul_889 : Rul r_889 := by
  refine ⟨fun h => (by cases h), fun gi gv hg ρ M hm hB hF hG => ?_⟩
  obtain ⟨g1, g2⟩ := List.cons.inj (show ([aI ((0 : Int), ([(0, 1)] : List (Nat × Int))), aI ((0 : Int), ([(2, 2), (3, 1)] : List (Nat × Int)))] : List av) = [.inl gi, .inl gv] from hg)
  obtain ⟨g2, -⟩ := List.cons.inj g2
  cases g1
  cases g2
  have ei : ev ρ ((0 : Int), ([(0, 1)] : List (Nat × Int))) = ((ρ 0)) := by show 0 + (1 * ρ 0 + 0) = _; omega
  have ew : ev ρ ((0 : Int), ([(2, 2), (3, 1)] : List (Nat × Int))) = (2 * (ρ 2) + (ρ 3)) := by show 0 + (2 * ρ 2 + (1 * ρ 3 + 0)) = _; omega
  rw [show (st M (ctj r_889) (ev ρ ((0 : Int), ([(0, 1)] : List (Nat × Int)))).toNat (ev ρ ((0 : Int), ([(2, 2), (3, 1)] : List (Nat × Int))))) = (st M 58 ((ρ 0)).toNat (2 * (ρ 2) + (ρ 3))) from by rw [ei, ew]; rfl]
  have H := cr_889 M (ρ 0) (ρ 1) (ρ 2) (ρ 3) (hB _ List.mem_cons_self) (hB _ (List.mem_cons_of_mem _ List.mem_cons_self)) (hB _ (List.mem_cons_of_mem _ (List.mem_cons_of_mem _ List.mem_cons_self))) (hB _ (List.mem_cons_of_mem _ (List.mem_cons_of_mem _ (List.mem_cons_of_mem _ List.mem_cons_self)))) (cvp 336 (x' := (0 : Int)) (y' := (0 : Int)) (by show 0 + 0 = _; omega) (by show 0 + 0 = _; omega) (hm _ List.mem_cons_self)) (cvm (c := 58) (by decide) (x' := ((ρ 0))) (y' := ((ρ 3))) (by show 0 + (1 * ρ 0 + 0) = _; omega) (by show 0 + (1 * ρ 3 + 0) = _; omega) (hm _ (List.mem_cons_of_mem _ List.mem_cons_self))) (cvm (c := 59) (by decide) (x' := (6 : Int)) (y' := ((ρ 0))) (by show 6 + 0 = _; omega) (by show 0 + (1 * ρ 0 + 0) = _; omega) (hm _ (List.mem_cons_of_mem _ (List.mem_cons_of_mem _ List.mem_cons_self)))) (cvm (c := 56) (by decide) (x' := (6 : Int)) (y' := ((ρ 1))) (by show 6 + 0 = _; omega) (by show 0 + (1 * ρ 1 + 0) = _; omega) (hm _ (List.mem_cons_of_mem _ (List.mem_cons_of_mem _ (List.mem_cons_of_mem _ List.mem_cons_self))))) (cvm (c := 57) (by decide) (x' := ((ρ 1))) (y' := ((ρ 2))) (by show 0 + (1 * ρ 1 + 0) = _; omega) (by show 0 + (1 * ρ 2 + 0) = _; omega) (hm _ (List.mem_cons_of_mem _ (List.mem_cons_of_mem _ (List.mem_cons_of_mem _ (List.mem_cons_of_mem _ List.mem_cons_self)))))) hG
  obtain ⟨k0, -⟩ := H
  exact ⟨_, List.mem_cons_self, ρ, fun _ _ => rfl, (okM_c (pvp 337 (by show 0 + 0 = _; omega) (by show 0 + 0 = _; omega) k0) okM_n), okB_n, okF_n⟩
-- gm0_6
theorem cr_890 (M : pM) (s0 s1 s2 : Int) (b0 : 0 ≤ s0 ∧ s0 ≤ 2) (b1 : 0 ≤ s1 ∧ s1 ≤ 35640) (b2 : (-2147483648) ≤ s2 ∧ s2 ≤ 2147483647) (m0 : HP 326 (s0) (s1) M) (m1 : (0 ≤ (6 : Int) ∧ M 59 (6 : Int).toNat = (s0))) (m2 : HP 337 (0 : Int) (0 : Int) M) (m3 : (0 ≤ (s0) ∧ M 58 (s0).toNat = (s2))) (f0 : 0 ≤ (s1 + (-1) * s2)) (hG : gI M) : (HP 327 (0 : Int) (s1) M ∧ True) := by
  obtain ⟨j1, x1, x2, x3⟩ := Eq.mp hp_326 m0
  have hj : hrow 59 7 M 6 = s0.toNat := hrow_v (by decide) (by have h : M 59 6 = s0 := m1.2; rw [h]; omega)
  have hp : ∀ o, o < 6 → hrow 59 7 M o = hrow 59 6 M o := fun o ho => hrow_lt ho (by decide)
  have ej : j1 = s0.toNat := by omega
  subst ej
  have k1 := (Eq.mp hp_337 m2) s0.toNat (by omega)
  rw [m3.2] at k1
  have z := mx_u (hmC_0 hG) hp hj (by omega) x3 k1.symm
  rw [show max s1 s2 = s1 by omega] at z
  exact ⟨Eq.mpr hp_327 ⟨0, by omega, by omega, z⟩, trivial⟩
theorem rul_890 : Rul r_890 := by
  refine ⟨fun _ ρ M hm hB hF hG => ?_, fun gi gv hg => (by cases hg)⟩
  have H := cr_890 M (ρ 0) (ρ 1) (ρ 2) (hB _ List.mem_cons_self) (hB _ (List.mem_cons_of_mem _ List.mem_cons_self)) (hB _ (List.mem_cons_of_mem _ (List.mem_cons_of_mem _ List.mem_cons_self))) (cvp 326 (x' := ((ρ 0))) (y' := ((ρ 1))) (by show 0 + (1 * ρ 0 + 0) = _; omega) (by show 0 + (1 * ρ 1 + 0) = _; omega) (hm _ List.mem_cons_self)) (cvm (c := 59) (by decide) (x' := (6 : Int)) (y' := ((ρ 0))) (by show 6 + 0 = _; omega) (by show 0 + (1 * ρ 0 + 0) = _; omega) (hm _ (List.mem_cons_of_mem _ List.mem_cons_self))) (cvp 337 (x' := (0 : Int)) (y' := (0 : Int)) (by show 0 + 0 = _; omega) (by show 0 + 0 = _; omega) (hm _ (List.mem_cons_of_mem _ (List.mem_cons_of_mem _ List.mem_cons_self)))) (cvm (c := 58) (by decide) (x' := ((ρ 0))) (y' := ((ρ 2))) (by show 0 + (1 * ρ 0 + 0) = _; omega) (by show 0 + (1 * ρ 2 + 0) = _; omega) (hm _ (List.mem_cons_of_mem _ (List.mem_cons_of_mem _ (List.mem_cons_of_mem _ List.mem_cons_self))))) (by have h := hF _ List.mem_cons_self; have h : 0 ≤ 0 + (1 * ρ 1 + ((-1) * ρ 2 + 0)) := h; omega) hG
  obtain ⟨k0, -⟩ := H
  exact ⟨_, List.mem_cons_self, ρ, fun _ _ => rfl, (okM_c (pvp 327 (by show 0 + 0 = _; omega) (by show 0 + (1 * ρ 1 + 0) = _; omega) k0) okM_n), okB_n, okF_n⟩
-- gm1_6
theorem cr_891 (M : pM) (s0 s1 s2 : Int) (b0 : 0 ≤ s0 ∧ s0 ≤ 2) (b1 : 0 ≤ s1 ∧ s1 ≤ 35640) (b2 : (-2147483648) ≤ s2 ∧ s2 ≤ 2147483647) (m0 : HP 326 (s0) (s1) M) (m1 : (0 ≤ (6 : Int) ∧ M 59 (6 : Int).toNat = (s0))) (m2 : HP 337 (0 : Int) (0 : Int) M) (m3 : (0 ≤ (s0) ∧ M 58 (s0).toNat = (s2))) (f0 : 0 ≤ ((-1) * s1 + s2 - 1)) (hG : gI M) : (HP 327 (0 : Int) (s2) M ∧ True) := by
  obtain ⟨j1, x1, x2, x3⟩ := Eq.mp hp_326 m0
  have hj : hrow 59 7 M 6 = s0.toNat := hrow_v (by decide) (by have h : M 59 6 = s0 := m1.2; rw [h]; omega)
  have hp : ∀ o, o < 6 → hrow 59 7 M o = hrow 59 6 M o := fun o ho => hrow_lt ho (by decide)
  have ej : j1 = s0.toNat := by omega
  subst ej
  have k1 := (Eq.mp hp_337 m2) s0.toNat (by omega)
  rw [m3.2] at k1
  have z := mx_u (hmC_0 hG) hp hj (by omega) x3 k1.symm
  rw [show max s1 s2 = s2 by omega] at z
  exact ⟨Eq.mpr hp_327 ⟨0, by omega, by omega, z⟩, trivial⟩
theorem rul_891 : Rul r_891 := by
  refine ⟨fun _ ρ M hm hB hF hG => ?_, fun gi gv hg => (by cases hg)⟩
  have H := cr_891 M (ρ 0) (ρ 1) (ρ 2) (hB _ List.mem_cons_self) (hB _ (List.mem_cons_of_mem _ List.mem_cons_self)) (hB _ (List.mem_cons_of_mem _ (List.mem_cons_of_mem _ List.mem_cons_self))) (cvp 326 (x' := ((ρ 0))) (y' := ((ρ 1))) (by show 0 + (1 * ρ 0 + 0) = _; omega) (by show 0 + (1 * ρ 1 + 0) = _; omega) (hm _ List.mem_cons_self)) (cvm (c := 59) (by decide) (x' := (6 : Int)) (y' := ((ρ 0))) (by show 6 + 0 = _; omega) (by show 0 + (1 * ρ 0 + 0) = _; omega) (hm _ (List.mem_cons_of_mem _ List.mem_cons_self))) (cvp 337 (x' := (0 : Int)) (y' := (0 : Int)) (by show 0 + 0 = _; omega) (by show 0 + 0 = _; omega) (hm _ (List.mem_cons_of_mem _ (List.mem_cons_of_mem _ List.mem_cons_self)))) (cvm (c := 58) (by decide) (x' := ((ρ 0))) (y' := ((ρ 2))) (by show 0 + (1 * ρ 0 + 0) = _; omega) (by show 0 + (1 * ρ 2 + 0) = _; omega) (hm _ (List.mem_cons_of_mem _ (List.mem_cons_of_mem _ (List.mem_cons_of_mem _ List.mem_cons_self))))) (by have h := hF _ List.mem_cons_self; have h : 0 ≤ (-1) + ((-1) * ρ 1 + (1 * ρ 2 + 0)) := h; omega) hG
  obtain ⟨k0, -⟩ := H
  exact ⟨_, List.mem_cons_self, ρ, fun _ _ => rfl, (okM_c (pvp 327 (by show 0 + 0 = _; omega) (by show 0 + (1 * ρ 2 + 0) = _; omega) k0) okM_n), okB_n, okF_n⟩
-- gs6
theorem cr_892 (M : pM) (s0 s1 s2 s3 : Int) (b0 : 0 ≤ s0 ∧ s0 ≤ 2) (b1 : 0 ≤ s1 ∧ s1 ≤ 63) (b2 : 0 ≤ s2 ∧ s2 ≤ 1980) (b3 : (-2147483648) ≤ s3 ∧ s3 ≤ 2147483647) (m0 : HP 337 (0 : Int) (0 : Int) M) (m1 : (0 ≤ (s0) ∧ M 58 (s0).toNat = (s3))) (m2 : (0 ≤ (6 : Int) ∧ M 59 (6 : Int).toNat = (s0))) (m3 : (0 ≤ (6 : Int) ∧ M 56 (6 : Int).toNat = (s1))) (m4 : (0 ≤ (s1) ∧ M 57 (s1).toNat = (s2))) (hG : gI M) : (HP 336 (0 : Int) (0 : Int) (st M 58 (s0).toNat ((-2) * s2 + s3)) ∧ True) := by
  have hj : hrow 59 7 M 6 = s0.toNat := hrow_v (by decide) (by have h : M 59 6 = s0 := m2.2; rw [h]; omega)
  have hp : ∀ o, o < 6 → hrow 59 7 M o = hrow 59 6 M o := fun o ho => hrow_lt ho (by decide)
  have hz : 2 * s2 = hmC M 6 := (hmC_v (o := 6) (c := s1.toNat) (by decide) (by omega) (by have h : M 56 6 = s1 := m3.2; rw [h]; omega) m4.2).symm
  have hl := Eq.mp hp_337 m0
  refine ⟨Eq.mpr hp_336 (fun a ha => ?_), trivial⟩
  rw [hmC_st (by decide) (by decide), hrow_st (by decide)]
  exact ld_d (R := fun a => M 58 a) (R' := fun a => st M 58 (s0).toNat ((-2) * s2 + s3) 58 a) hp hj hl (fun a ha => by
      show st M 58 (s0).toNat ((-2) * s2 + s3) 58 a = if a = s0.toNat then M 58 s0.toNat - 2 * s2 else M 58 a
      rw [hst_v]
      by_cases e : a = s0.toNat
      · rw [if_pos e, if_pos e, m1.2]; omega
      · rw [if_neg e, if_neg e]) hz (by omega) a ha
theorem rul_892 : Rul r_892 := by
  refine ⟨fun h => (by cases h), fun gi gv hg ρ M hm hB hF hG => ?_⟩
  obtain ⟨g1, g2⟩ := List.cons.inj (show ([aI ((0 : Int), ([(0, 1)] : List (Nat × Int))), aI ((0 : Int), ([(2, (-2)), (3, 1)] : List (Nat × Int)))] : List av) = [.inl gi, .inl gv] from hg)
  obtain ⟨g2, -⟩ := List.cons.inj g2
  cases g1
  cases g2
  have ei : ev ρ ((0 : Int), ([(0, 1)] : List (Nat × Int))) = ((ρ 0)) := by show 0 + (1 * ρ 0 + 0) = _; omega
  have ew : ev ρ ((0 : Int), ([(2, (-2)), (3, 1)] : List (Nat × Int))) = ((-2) * (ρ 2) + (ρ 3)) := by show 0 + ((-2) * ρ 2 + (1 * ρ 3 + 0)) = _; omega
  rw [show (st M (ctj r_892) (ev ρ ((0 : Int), ([(0, 1)] : List (Nat × Int)))).toNat (ev ρ ((0 : Int), ([(2, (-2)), (3, 1)] : List (Nat × Int))))) = (st M 58 ((ρ 0)).toNat ((-2) * (ρ 2) + (ρ 3))) from by rw [ei, ew]; rfl]
  have H := cr_892 M (ρ 0) (ρ 1) (ρ 2) (ρ 3) (hB _ List.mem_cons_self) (hB _ (List.mem_cons_of_mem _ List.mem_cons_self)) (hB _ (List.mem_cons_of_mem _ (List.mem_cons_of_mem _ List.mem_cons_self))) (hB _ (List.mem_cons_of_mem _ (List.mem_cons_of_mem _ (List.mem_cons_of_mem _ List.mem_cons_self)))) (cvp 337 (x' := (0 : Int)) (y' := (0 : Int)) (by show 0 + 0 = _; omega) (by show 0 + 0 = _; omega) (hm _ List.mem_cons_self)) (cvm (c := 58) (by decide) (x' := ((ρ 0))) (y' := ((ρ 3))) (by show 0 + (1 * ρ 0 + 0) = _; omega) (by show 0 + (1 * ρ 3 + 0) = _; omega) (hm _ (List.mem_cons_of_mem _ List.mem_cons_self))) (cvm (c := 59) (by decide) (x' := (6 : Int)) (y' := ((ρ 0))) (by show 6 + 0 = _; omega) (by show 0 + (1 * ρ 0 + 0) = _; omega) (hm _ (List.mem_cons_of_mem _ (List.mem_cons_of_mem _ List.mem_cons_self)))) (cvm (c := 56) (by decide) (x' := (6 : Int)) (y' := ((ρ 1))) (by show 6 + 0 = _; omega) (by show 0 + (1 * ρ 1 + 0) = _; omega) (hm _ (List.mem_cons_of_mem _ (List.mem_cons_of_mem _ (List.mem_cons_of_mem _ List.mem_cons_self))))) (cvm (c := 57) (by decide) (x' := ((ρ 1))) (y' := ((ρ 2))) (by show 0 + (1 * ρ 1 + 0) = _; omega) (by show 0 + (1 * ρ 2 + 0) = _; omega) (hm _ (List.mem_cons_of_mem _ (List.mem_cons_of_mem _ (List.mem_cons_of_mem _ (List.mem_cons_of_mem _ List.mem_cons_self)))))) hG
  obtain ⟨k0, -⟩ := H
  exact ⟨_, List.mem_cons_self, ρ, fun _ _ => rfl, (okM_c (pvp 336 (by show 0 + 0 = _; omega) (by show 0 + 0 = _; omega) k0) okM_n), okB_n, okF_n⟩
-- gsb6
theorem cr_893 (M : pM) (s0 s1 s2 s3 : Int) (b0 : 0 ≤ s0 ∧ s0 ≤ 2) (b1 : 0 ≤ s1 ∧ s1 ≤ 63) (b2 : 0 ≤ s2 ∧ s2 ≤ 1980) (b3 : (-2147483648) ≤ s3 ∧ s3 ≤ 2147483647) (m0 : HP 337 (0 : Int) (0 : Int) M) (m1 : (0 ≤ (s0) ∧ M 58 (s0).toNat = (s3))) (m2 : (0 ≤ (6 : Int) ∧ M 59 (6 : Int).toNat = (s0))) (m3 : (0 ≤ (6 : Int) ∧ M 56 (6 : Int).toNat = (s1))) (m4 : (0 ≤ (s1) ∧ M 57 (s1).toNat = (s2))) (hG : gI M) : (0 ≤ ((-2) * s2 + s3) ∧ True) := by
  have hj : hrow 59 7 M 6 = s0.toNat := hrow_v (by decide) (by have h : M 59 6 = s0 := m2.2; rw [h]; omega)
  have hp : ∀ o, o < 6 → hrow 59 7 M o = hrow 59 6 M o := fun o ho => hrow_lt ho (by decide)
  have hz : 2 * s2 = hmC M 6 := (hmC_v (o := 6) (c := s1.toNat) (by decide) (by omega) (by have h : M 56 6 = s1 := m3.2; rw [h]; omega) m4.2).symm
  have k1 := (Eq.mp hp_337 m0) s0.toNat (by omega)
  rw [m1.2] at k1
  have k2 : hps (hmC M) (hrow 59 7 M) s0.toNat 7 = hps (hmC M) (hrow 59 7 M) s0.toNat 6 + (if hrow 59 7 M 6 = s0.toNat then hmC M 6 else 0) := rfl
  rw [hj, if_pos rfl] at k2
  have k3 := hps_0 (t := hrow 59 7 M) (a := s0.toNat) (hmC_0 hG) 6
  exact ⟨by omega, trivial⟩
theorem rul_893 : Rul r_893 := by
  refine ⟨fun _ ρ M hm hB hF hG => ?_, fun gi gv hg => (by cases hg)⟩
  have H := cr_893 M (ρ 0) (ρ 1) (ρ 2) (ρ 3) (hB _ List.mem_cons_self) (hB _ (List.mem_cons_of_mem _ List.mem_cons_self)) (hB _ (List.mem_cons_of_mem _ (List.mem_cons_of_mem _ List.mem_cons_self))) (hB _ (List.mem_cons_of_mem _ (List.mem_cons_of_mem _ (List.mem_cons_of_mem _ List.mem_cons_self)))) (cvp 337 (x' := (0 : Int)) (y' := (0 : Int)) (by show 0 + 0 = _; omega) (by show 0 + 0 = _; omega) (hm _ List.mem_cons_self)) (cvm (c := 58) (by decide) (x' := ((ρ 0))) (y' := ((ρ 3))) (by show 0 + (1 * ρ 0 + 0) = _; omega) (by show 0 + (1 * ρ 3 + 0) = _; omega) (hm _ (List.mem_cons_of_mem _ List.mem_cons_self))) (cvm (c := 59) (by decide) (x' := (6 : Int)) (y' := ((ρ 0))) (by show 6 + 0 = _; omega) (by show 0 + (1 * ρ 0 + 0) = _; omega) (hm _ (List.mem_cons_of_mem _ (List.mem_cons_of_mem _ List.mem_cons_self)))) (cvm (c := 56) (by decide) (x' := (6 : Int)) (y' := ((ρ 1))) (by show 6 + 0 = _; omega) (by show 0 + (1 * ρ 1 + 0) = _; omega) (hm _ (List.mem_cons_of_mem _ (List.mem_cons_of_mem _ (List.mem_cons_of_mem _ List.mem_cons_self))))) (cvm (c := 57) (by decide) (x' := ((ρ 1))) (y' := ((ρ 2))) (by show 0 + (1 * ρ 1 + 0) = _; omega) (by show 0 + (1 * ρ 2 + 0) = _; omega) (hm _ (List.mem_cons_of_mem _ (List.mem_cons_of_mem _ (List.mem_cons_of_mem _ (List.mem_cons_of_mem _ List.mem_cons_self)))))) hG
  obtain ⟨f0, -⟩ := H
  exact ⟨_, List.mem_cons_self, ρ, fun _ _ => rfl, okM_n, okB_n, (okF_c (by show 0 ≤ 0 + ((-2) * ρ 2 + (1 * ρ 3 + 0)); omega) okF_n)⟩
-- gn6
theorem cr_894 (M : pM) (s0 s1 s2 : Int) (b0 : 0 ≤ s0 ∧ s0 ≤ 2) (b1 : 1 ≤ s1 ∧ s1 ≤ 3) (b2 : 0 ≤ s2 ∧ s2 ≤ 9) (m0 : HP 317 (s1) (s1) M) (m1 : (0 ≤ (6 : Int) ∧ M 59 (6 : Int).toNat = (s0))) (m2 : (0 ≤ (1 : Int) ∧ M 55 (1 : Int).toNat = (s2))) (f0 : 0 ≤ ((-1) * s0 + s1 - 1)) (f1 : 0 ≤ (s2 - 7)) (hG : gI M) : (HP 316 (s0 + 1) (s1) M ∧ True) := by
  obtain ⟨j0, T0, t1, t2, t3, t4, t5, t6, t7⟩ := Eq.mp hp_317 m0
  have hj : hrow 59 7 M 6 = s0.toNat := hrow_v (by decide) (by have h : M 59 6 = s0 := m1.2; rw [h]; omega)
  have hp : ∀ o, o < 6 → hrow 59 7 M o = hrow 59 6 M o := fun o ho => hrow_lt ho (by decide)
  have en : hnC M = s2.toNat := hnC_v (by omega) (by have h : M 55 1 = s2 := m2.2; rw [h]; omega)
  have ej : j0 = T0 := by omega
  subst ej
  exact ⟨Eq.mpr hp_316 ⟨s0.toNat + 1, j0, t1, t2, by omega, by omega, by omega, fun o ho => by rw [← hp o ho]; exact t6 o (by omega), hj_up hp hj (by omega) (by rw [en]; omega) t7⟩, trivial⟩
theorem rul_894 : Rul r_894 := by
  refine ⟨fun _ ρ M hm hB hF hG => ?_, fun gi gv hg => (by cases hg)⟩
  have H := cr_894 M (ρ 0) (ρ 1) (ρ 2) (hB _ List.mem_cons_self) (hB _ (List.mem_cons_of_mem _ List.mem_cons_self)) (hB _ (List.mem_cons_of_mem _ (List.mem_cons_of_mem _ List.mem_cons_self))) (cvp 317 (x' := ((ρ 1))) (y' := ((ρ 1))) (by show 0 + (1 * ρ 1 + 0) = _; omega) (by show 0 + (1 * ρ 1 + 0) = _; omega) (hm _ List.mem_cons_self)) (cvm (c := 59) (by decide) (x' := (6 : Int)) (y' := ((ρ 0))) (by show 6 + 0 = _; omega) (by show 0 + (1 * ρ 0 + 0) = _; omega) (hm _ (List.mem_cons_of_mem _ List.mem_cons_self))) (cvm (c := 55) (by decide) (x' := (1 : Int)) (y' := ((ρ 2))) (by show 1 + 0 = _; omega) (by show 0 + (1 * ρ 2 + 0) = _; omega) (hm _ (List.mem_cons_of_mem _ (List.mem_cons_of_mem _ List.mem_cons_self)))) (by have h := hF _ List.mem_cons_self; have h : 0 ≤ (-1) + ((-1) * ρ 0 + (1 * ρ 1 + 0)) := h; omega) (by have h := hF _ (List.mem_cons_of_mem _ List.mem_cons_self); have h : 0 ≤ (-7) + (1 * ρ 2 + 0) := h; omega) hG
  obtain ⟨k0, -⟩ := H
  exact ⟨_, List.mem_cons_self, ρ, fun _ _ => rfl, (okM_c (pvp 316 (by show 1 + (1 * ρ 0 + 0) = _; omega) (by show 0 + (1 * ρ 1 + 0) = _; omega) k0) okM_n), okB_n, okF_n⟩
-- ge6
theorem cr_895 (M : pM) (s0 s1 s2 s3 s4 : Int) (b0 : 0 ≤ s0 ∧ s0 ≤ 2) (b1 : 1 ≤ s1 ∧ s1 ≤ 3) (b2 : 0 ≤ s2 ∧ s2 ≤ 35640) (b3 : 0 ≤ s3 ∧ s3 ≤ 0) (b4 : 0 ≤ s4 ∧ s4 ≤ 9) (m0 : HP 316 (s0 + 1) (s1) M) (m1 : HP 336 (0 : Int) (0 : Int) M) (m2 : (0 ≤ (s0) ∧ M 58 (s0).toNat = (s3))) (m3 : HP 326 (s0) (s2) M) (m4 : (0 ≤ (1 : Int) ∧ M 55 (1 : Int).toNat = (s4))) (f0 : 0 ≤ (s4 - 7)) (f1 : 0 ≤ ((-1) * s0 + s1 - 1)) (hG : gI M) : (HP 316 (s1) (s1) M ∧ True) := by
  obtain ⟨j0, T0, t1, t2, t3, t4, t5, t6, t7⟩ := Eq.mp hp_316 m0
  obtain ⟨j1, x1, x2, x3⟩ := Eq.mp hp_326 m3
  have en : hnC M = s4.toNat := hnC_v (by omega) (by have h : M 55 1 = s4 := m4.2; rw [h]; omega)
  have ej : j1 = s0.toNat := by omega
  subst ej
  have ek : j0 = s0.toNat + 1 := by omega
  subst ek
  have k1 := (Eq.mp hp_336 m1) s0.toNat (by omega)
  rw [m2.2] at k1
  exact ⟨Eq.mpr hp_316 ⟨T0, T0, t1, t2, Nat.le_refl _, by omega, by omega, t6, hj_sw (by rw [en]; omega) (by omega) t2 t7 x3 (by omega)⟩, trivial⟩
theorem rul_895 : Rul r_895 := by
  refine ⟨fun _ ρ M hm hB hF hG => ?_, fun gi gv hg => (by cases hg)⟩
  have H := cr_895 M (ρ 0) (ρ 1) (ρ 2) (ρ 3) (ρ 4) (hB _ List.mem_cons_self) (hB _ (List.mem_cons_of_mem _ List.mem_cons_self)) (hB _ (List.mem_cons_of_mem _ (List.mem_cons_of_mem _ List.mem_cons_self))) (hB _ (List.mem_cons_of_mem _ (List.mem_cons_of_mem _ (List.mem_cons_of_mem _ List.mem_cons_self)))) (hB _ (List.mem_cons_of_mem _ (List.mem_cons_of_mem _ (List.mem_cons_of_mem _ (List.mem_cons_of_mem _ List.mem_cons_self))))) (cvp 316 (x' := ((ρ 0) + 1)) (y' := ((ρ 1))) (by show 1 + (1 * ρ 0 + 0) = _; omega) (by show 0 + (1 * ρ 1 + 0) = _; omega) (hm _ List.mem_cons_self)) (cvp 336 (x' := (0 : Int)) (y' := (0 : Int)) (by show 0 + 0 = _; omega) (by show 0 + 0 = _; omega) (hm _ (List.mem_cons_of_mem _ List.mem_cons_self))) (cvm (c := 58) (by decide) (x' := ((ρ 0))) (y' := ((ρ 3))) (by show 0 + (1 * ρ 0 + 0) = _; omega) (by show 0 + (1 * ρ 3 + 0) = _; omega) (hm _ (List.mem_cons_of_mem _ (List.mem_cons_of_mem _ List.mem_cons_self)))) (cvp 326 (x' := ((ρ 0))) (y' := ((ρ 2))) (by show 0 + (1 * ρ 0 + 0) = _; omega) (by show 0 + (1 * ρ 2 + 0) = _; omega) (hm _ (List.mem_cons_of_mem _ (List.mem_cons_of_mem _ (List.mem_cons_of_mem _ List.mem_cons_self))))) (cvm (c := 55) (by decide) (x' := (1 : Int)) (y' := ((ρ 4))) (by show 1 + 0 = _; omega) (by show 0 + (1 * ρ 4 + 0) = _; omega) (hm _ (List.mem_cons_of_mem _ (List.mem_cons_of_mem _ (List.mem_cons_of_mem _ (List.mem_cons_of_mem _ List.mem_cons_self)))))) (by have h := hF _ List.mem_cons_self; have h : 0 ≤ (-7) + (1 * ρ 4 + 0) := h; omega) (by have h := hF _ (List.mem_cons_of_mem _ List.mem_cons_self); have h : 0 ≤ (-1) + ((-1) * ρ 0 + (1 * ρ 1 + 0)) := h; omega) hG
  obtain ⟨k0, -⟩ := H
  exact ⟨_, List.mem_cons_self, ρ, fun _ _ => rfl, (okM_c (pvp 316 (by show 0 + (1 * ρ 1 + 0) = _; omega) (by show 0 + (1 * ρ 1 + 0) = _; omega) k0) okM_n), okB_n, okF_n⟩
-- gz6
theorem cr_896 (M : pM) (s0 s1 s2 : Int) (b0 : 0 ≤ s0 ∧ s0 ≤ 2) (b1 : 0 ≤ s1 ∧ s1 ≤ 35640) (b2 : (-2147483648) ≤ s2 ∧ s2 ≤ 2147483647) (m0 : HP 326 (s0) (s1) M) (m1 : HP 336 (0 : Int) (0 : Int) M) (m2 : (0 ≤ (s0) ∧ M 58 (s0).toNat = (s2))) (f0 : 0 ≤ (s2 - 1)) (hG : gI M) : (HP 326 (s0 + 1) (s1) M ∧ True) := by
  obtain ⟨j1, x1, x2, x3⟩ := Eq.mp hp_326 m0
  have ej : j1 = s0.toNat := by omega
  subst ej
  have k1 := (Eq.mp hp_336 m1) s0.toNat (by omega)
  rw [m2.2] at k1
  exact ⟨Eq.mpr hp_326 ⟨s0.toNat + 1, by omega, by omega, mx_z x3 (by omega)⟩, trivial⟩
theorem rul_896 : Rul r_896 := by
  refine ⟨fun _ ρ M hm hB hF hG => ?_, fun gi gv hg => (by cases hg)⟩
  have H := cr_896 M (ρ 0) (ρ 1) (ρ 2) (hB _ List.mem_cons_self) (hB _ (List.mem_cons_of_mem _ List.mem_cons_self)) (hB _ (List.mem_cons_of_mem _ (List.mem_cons_of_mem _ List.mem_cons_self))) (cvp 326 (x' := ((ρ 0))) (y' := ((ρ 1))) (by show 0 + (1 * ρ 0 + 0) = _; omega) (by show 0 + (1 * ρ 1 + 0) = _; omega) (hm _ List.mem_cons_self)) (cvp 336 (x' := (0 : Int)) (y' := (0 : Int)) (by show 0 + 0 = _; omega) (by show 0 + 0 = _; omega) (hm _ (List.mem_cons_of_mem _ List.mem_cons_self))) (cvm (c := 58) (by decide) (x' := ((ρ 0))) (y' := ((ρ 2))) (by show 0 + (1 * ρ 0 + 0) = _; omega) (by show 0 + (1 * ρ 2 + 0) = _; omega) (hm _ (List.mem_cons_of_mem _ (List.mem_cons_of_mem _ List.mem_cons_self)))) (by have h := hF _ List.mem_cons_self; have h : 0 ≤ (-1) + (1 * ρ 2 + 0) := h; omega) hG
  obtain ⟨k0, -⟩ := H
  exact ⟨_, List.mem_cons_self, ρ, fun _ _ => rfl, (okM_c (pvp 326 (by show 1 + (1 * ρ 0 + 0) = _; omega) (by show 0 + (1 * ρ 1 + 0) = _; omega) k0) okM_n), okB_n, okF_n⟩
-- gf6
theorem cr_897 (M : pM) (s0 s1 : Int) (b0 : 0 ≤ s0 ∧ s0 ≤ 3) (b1 : 1 ≤ s1 ∧ s1 ≤ 3) (m0 : HP 316 (s0) (s1) M) (f0 : 0 ≤ (s0 + (-1) * s1)) (f1 : 0 ≤ ((-1) * s0 + s1)) (hG : gI M) : (HP 316 (s1) (s1) M ∧ True) := by
  obtain ⟨j0, T0, t1, t2, t3, t4, t5, t6, t7⟩ := Eq.mp hp_316 m0
  have ej : j0 = T0 := by omega
  subst ej
  exact ⟨Eq.mpr hp_316 ⟨j0, j0, t1, t2, Nat.le_refl _, by omega, by omega, t6, t7⟩, trivial⟩
theorem rul_897 : Rul r_897 := by
  refine ⟨fun _ ρ M hm hB hF hG => ?_, fun gi gv hg => (by cases hg)⟩
  have H := cr_897 M (ρ 0) (ρ 1) (hB _ List.mem_cons_self) (hB _ (List.mem_cons_of_mem _ List.mem_cons_self)) (cvp 316 (x' := ((ρ 0))) (y' := ((ρ 1))) (by show 0 + (1 * ρ 0 + 0) = _; omega) (by show 0 + (1 * ρ 1 + 0) = _; omega) (hm _ List.mem_cons_self)) (by have h := hF _ List.mem_cons_self; have h : 0 ≤ 0 + (1 * ρ 0 + ((-1) * ρ 1 + 0)) := h; omega) (by have h := hF _ (List.mem_cons_of_mem _ List.mem_cons_self); have h : 0 ≤ 0 + ((-1) * ρ 0 + (1 * ρ 1 + 0)) := h; omega) hG
  obtain ⟨k0, -⟩ := H
  exact ⟨_, List.mem_cons_self, ρ, fun _ _ => rfl, (okM_c (pvp 316 (by show 0 + (1 * ρ 1 + 0) = _; omega) (by show 0 + (1 * ρ 1 + 0) = _; omega) k0) okM_n), okB_n, okF_n⟩
-- gb6
theorem cr_898 (M : pM) (s0 s1 s2 : Int) (b0 : 0 ≤ s0 ∧ s0 ≤ 35640) (b1 : 0 ≤ s1 ∧ s1 ≤ 3) (b2 : 0 ≤ s2 ∧ s2 ≤ 9) (m0 : HP 326 (s1) (s0) M) (m1 : HP 342 (s2) (0 : Int) M) (f0 : 0 ≤ (s2 - 6)) (hG : gI M) : (0 ≤ ((-1) * s0 + 23760) ∧ True) := by
  obtain ⟨j1, x1, x2, x3⟩ := Eq.mp hp_326 m0
  obtain ⟨h1, h2, h3⟩ := Eq.mp hp_342 m1
  obtain ⟨a, a1, a2⟩ := x3.2.1
  have k := hps_b (m := hmC M) (t := (hrow 59 6 M)) (a := a) (K := 3960) (by decide) (g := 6) (fun o ho => h3 o (by omega))
  rw [a2] at k
  exact ⟨by omega, trivial⟩
theorem rul_898 : Rul r_898 := by
  refine ⟨fun _ ρ M hm hB hF hG => ?_, fun gi gv hg => (by cases hg)⟩
  have H := cr_898 M (ρ 0) (ρ 1) (ρ 2) (hB _ List.mem_cons_self) (hB _ (List.mem_cons_of_mem _ List.mem_cons_self)) (hB _ (List.mem_cons_of_mem _ (List.mem_cons_of_mem _ List.mem_cons_self))) (cvp 326 (x' := ((ρ 1))) (y' := ((ρ 0))) (by show 0 + (1 * ρ 1 + 0) = _; omega) (by show 0 + (1 * ρ 0 + 0) = _; omega) (hm _ List.mem_cons_self)) (cvp 342 (x' := ((ρ 2))) (y' := (0 : Int)) (by show 0 + (1 * ρ 2 + 0) = _; omega) (by show 0 + 0 = _; omega) (hm _ (List.mem_cons_of_mem _ List.mem_cons_self))) (by have h := hF _ List.mem_cons_self; have h : 0 ≤ (-6) + (1 * ρ 2 + 0) := h; omega) hG
  obtain ⟨f0, -⟩ := H
  exact ⟨_, List.mem_cons_self, ρ, fun _ _ => rfl, okM_n, okB_n, (okF_c (by show 0 ≤ 23760 + ((-1) * ρ 0 + 0); omega) okF_n)⟩
-- gpr7
theorem cr_899 (M : pM) (s0 s1 s2 s3 : Int) (b0 : 1 ≤ s0 ∧ s0 ≤ 3) (b1 : 0 ≤ s1 ∧ s1 ≤ 35640) (b2 : 0 ≤ s2 ∧ s2 ≤ 9) (b3 : 0 ≤ s3 ∧ s3 ≤ 1000000) (m0 : HP 317 (0 : Int) (s0) M) (m1 : HP 327 (0 : Int) (s1) M) (m2 : (0 ≤ (1 : Int) ∧ M 55 (1 : Int).toNat = (s2))) (m3 : (0 ≤ (6 : Int) ∧ M 55 (6 : Int).toNat = (s3))) (f0 : 0 ≤ (s1 + (-1) * s3)) (f1 : 0 ≤ (s2 - 7)) (hG : gI M) : (HP 317 (s0) (s0) M ∧ True) := by
  obtain ⟨j0, T0, t1, t2, t3, t4, t5, t6, t7⟩ := Eq.mp hp_317 m0
  obtain ⟨j1, x1, x2, x3⟩ := Eq.mp hp_327 m1
  have en : hnC M = s2.toNat := hnC_v (by omega) (by have h : M 55 1 = s2 := m2.2; rw [h]; omega)
  have eb : M 55 6 = s3 := m3.2
  have ej : j0 = 0 := by omega
  subst ej
  exact ⟨Eq.mpr hp_317 ⟨T0, T0, t1, t2, Nat.le_refl _, by omega, by omega, t6, hj_pr (hmC_0 hG) (by rw [en]; omega) t7 x3 (by rw [eb]; omega)⟩, trivial⟩
theorem rul_899 : Rul r_899 := by
  refine ⟨fun _ ρ M hm hB hF hG => ?_, fun gi gv hg => (by cases hg)⟩
  have H := cr_899 M (ρ 0) (ρ 1) (ρ 2) (ρ 3) (hB _ List.mem_cons_self) (hB _ (List.mem_cons_of_mem _ List.mem_cons_self)) (hB _ (List.mem_cons_of_mem _ (List.mem_cons_of_mem _ List.mem_cons_self))) (hB _ (List.mem_cons_of_mem _ (List.mem_cons_of_mem _ (List.mem_cons_of_mem _ List.mem_cons_self)))) (cvp 317 (x' := (0 : Int)) (y' := ((ρ 0))) (by show 0 + 0 = _; omega) (by show 0 + (1 * ρ 0 + 0) = _; omega) (hm _ List.mem_cons_self)) (cvp 327 (x' := (0 : Int)) (y' := ((ρ 1))) (by show 0 + 0 = _; omega) (by show 0 + (1 * ρ 1 + 0) = _; omega) (hm _ (List.mem_cons_of_mem _ List.mem_cons_self))) (cvm (c := 55) (by decide) (x' := (1 : Int)) (y' := ((ρ 2))) (by show 1 + 0 = _; omega) (by show 0 + (1 * ρ 2 + 0) = _; omega) (hm _ (List.mem_cons_of_mem _ (List.mem_cons_of_mem _ List.mem_cons_self)))) (cvm (c := 55) (by decide) (x' := (6 : Int)) (y' := ((ρ 3))) (by show 6 + 0 = _; omega) (by show 0 + (1 * ρ 3 + 0) = _; omega) (hm _ (List.mem_cons_of_mem _ (List.mem_cons_of_mem _ (List.mem_cons_of_mem _ List.mem_cons_self))))) (by have h := hF _ List.mem_cons_self; have h : 0 ≤ 0 + (1 * ρ 1 + ((-1) * ρ 3 + 0)) := h; omega) (by have h := hF _ (List.mem_cons_of_mem _ List.mem_cons_self); have h : 0 ≤ (-7) + (1 * ρ 2 + 0) := h; omega) hG
  obtain ⟨k0, -⟩ := H
  exact ⟨_, List.mem_cons_self, ρ, fun _ _ => rfl, (okM_c (pvp 317 (by show 0 + (1 * ρ 0 + 0) = _; omega) (by show 0 + (1 * ρ 0 + 0) = _; omega) k0) okM_n), okB_n, okF_n⟩
