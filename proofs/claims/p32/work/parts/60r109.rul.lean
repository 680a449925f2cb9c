-- glf7
theorem cr_900 (M : pM) (s0 s1 s2 s3 : Int) (b0 : 1 ≤ s0 ∧ s0 ≤ 3) (b1 : 0 ≤ s1 ∧ s1 ≤ 35640) (b2 : 0 ≤ s2 ∧ s2 ≤ 9) (b3 : 0 ≤ s3 ∧ s3 ≤ 1000000) (m0 : HP 317 (0 : Int) (s0) M) (m1 : HP 327 (0 : Int) (s1) M) (m2 : (0 ≤ (1 : Int) ∧ M 55 (1 : Int).toNat = (s2))) (m3 : (0 ≤ (6 : Int) ∧ M 55 (6 : Int).toNat = (s3))) (f0 : 0 ≤ ((-1) * s1 + s3 - 1)) (f1 : 0 ≤ ((-1) * s2 + 7)) (f2 : 0 ≤ (s2 - 7)) (hG : gI M) : (HP 340 (s1) (s0) M ∧ True) := by
  obtain ⟨j0, T0, t1, t2, t3, t4, t5, t6, t7⟩ := Eq.mp hp_317 m0
  obtain ⟨j1, x1, x2, x3⟩ := Eq.mp hp_327 m1
  have en : hnC M = s2.toNat := hnC_v (by omega) (by have h : M 55 1 = s2 := m2.2; rw [h]; omega)
  have eb : M 55 6 = s3 := m3.2
  have ej : j0 = 0 := by omega
  subst ej
  have en2 : hnC M = 7 := by rw [en]; omega
  rw [en2] at t7
  obtain ⟨k1, k2⟩ := hj_lf t7 x3 (by rw [eb]; omega)
  exact ⟨Eq.mpr hp_340 ⟨T0, t1, t2, by omega, by rw [en2]; exact fun o ho => by rw [hrow_lt ho (by decide)]; exact t6 o ho, by rw [en2]; exact (hco_c (fun o ho => hrow_lt ho (by decide))).trans k1, by rw [en2]; exact fun t ht hl => k2 t ht (hlx_c hl (fun o ho => hrow_lt ho (by decide)))⟩, trivial⟩
theorem rul_900 : Rul r_900 := by
  refine ⟨fun _ ρ M hm hB hF hG => ?_, fun gi gv hg => (by cases hg)⟩
  have H := cr_900 M (ρ 0) (ρ 1) (ρ 2) (ρ 3) (hB _ List.mem_cons_self) (hB _ (List.mem_cons_of_mem _ List.mem_cons_self)) (hB _ (List.mem_cons_of_mem _ (List.mem_cons_of_mem _ List.mem_cons_self))) (hB _ (List.mem_cons_of_mem _ (List.mem_cons_of_mem _ (List.mem_cons_of_mem _ List.mem_cons_self)))) (cvp 317 (x' := (0 : Int)) (y' := ((ρ 0))) (by show 0 + 0 = _; omega) (by show 0 + (1 * ρ 0 + 0) = _; omega) (hm _ List.mem_cons_self)) (cvp 327 (x' := (0 : Int)) (y' := ((ρ 1))) (by show 0 + 0 = _; omega) (by show 0 + (1 * ρ 1 + 0) = _; omega) (hm _ (List.mem_cons_of_mem _ List.mem_cons_self))) (cvm (c := 55) (by decide) (x' := (1 : Int)) (y' := ((ρ 2))) (by show 1 + 0 = _; omega) (by show 0 + (1 * ρ 2 + 0) = _; omega) (hm _ (List.mem_cons_of_mem _ (List.mem_cons_of_mem _ List.mem_cons_self)))) (cvm (c := 55) (by decide) (x' := (6 : Int)) (y' := ((ρ 3))) (by show 6 + 0 = _; omega) (by show 0 + (1 * ρ 3 + 0) = _; omega) (hm _ (List.mem_cons_of_mem _ (List.mem_cons_of_mem _ (List.mem_cons_of_mem _ List.mem_cons_self))))) (by have h := hF _ List.mem_cons_self; have h : 0 ≤ (-1) + ((-1) * ρ 1 + (1 * ρ 3 + 0)) := h; omega) (by have h := hF _ (List.mem_cons_of_mem _ List.mem_cons_self); have h : 0 ≤ 7 + ((-1) * ρ 2 + 0) := h; omega) (by have h := hF _ (List.mem_cons_of_mem _ (List.mem_cons_of_mem _ List.mem_cons_self)); have h : 0 ≤ (-7) + (1 * ρ 2 + 0) := h; omega) hG
  obtain ⟨k0, -⟩ := H
  exact ⟨_, List.mem_cons_self, ρ, fun _ _ => rfl, (okM_c (pvp 340 (by show 0 + (1 * ρ 1 + 0) = _; omega) (by show 0 + (1 * ρ 0 + 0) = _; omega) k0) okM_n), okB_n, okF_n⟩
-- glx7
theorem cr_901 (M : pM) (s0 s1 s2 s3 : Int) (b0 : 1 ≤ s0 ∧ s0 ≤ 3) (b1 : 0 ≤ s1 ∧ s1 ≤ 35640) (b2 : 0 ≤ s2 ∧ s2 ≤ 9) (b3 : 0 ≤ s3 ∧ s3 ≤ 1000000) (m0 : HP 340 (s1) (s0) M) (m1 : HP 341 (s2) (0 : Int) M) (m2 : (0 ≤ (1 : Int) ∧ M 55 (1 : Int).toNat = (s2))) (m3 : (0 ≤ (6 : Int) ∧ M 55 (6 : Int).toNat = (s3))) (f0 : 0 ≤ ((-1) * s2 + 7)) (f1 : 0 ≤ (s2 - 7)) (f2 : 0 ≤ (s1 + (-1) * s3)) (f3 : 0 ≤ ((-1) * s1 + s3)) (hG : gI M) : (HP 317 (s0) (s0) M ∧ True) := by
  obtain ⟨T0, q1, q2, q3, q4, q5, q6⟩ := Eq.mp hp_340 m0
  have c2 := Eq.mp hp_341 m1
  have en : hnC M = s2.toNat := hnC_v (by omega) (by have h : M 55 1 = s2 := m2.2; rw [h]; omega)
  have eb : M 55 6 = s3 := m3.2
  have en2 : hnC M = 7 := by rw [en]; omega
  rw [en2] at q4 q5 q6
  exact ⟨Eq.mpr hp_317 ⟨T0, T0, q1, q2, Nat.le_refl _, by omega, by omega, fun o ho => by rw [← hrow_lt (k := 9) ho (by decide)]; exact q4 o ho, by
      rw [en2]
      exact hj_le (q := hrow 59 9 M) (fun o ho => hrow_lt ho (by decide)) (fun o ho => hrow_e (by omega) (c2 o (by omega) (by omega))) q4 (q5.trans (by rw [eb]; omega)) (fun t ht hl => by have := q6 t ht hl; rw [eb]; omega)⟩, trivial⟩
theorem rul_901 : Rul r_901 := by
  refine ⟨fun _ ρ M hm hB hF hG => ?_, fun gi gv hg => (by cases hg)⟩
  have H := cr_901 M (ρ 0) (ρ 1) (ρ 2) (ρ 3) (hB _ List.mem_cons_self) (hB _ (List.mem_cons_of_mem _ List.mem_cons_self)) (hB _ (List.mem_cons_of_mem _ (List.mem_cons_of_mem _ List.mem_cons_self))) (hB _ (List.mem_cons_of_mem _ (List.mem_cons_of_mem _ (List.mem_cons_of_mem _ List.mem_cons_self)))) (cvp 340 (x' := ((ρ 1))) (y' := ((ρ 0))) (by show 0 + (1 * ρ 1 + 0) = _; omega) (by show 0 + (1 * ρ 0 + 0) = _; omega) (hm _ List.mem_cons_self)) (cvp 341 (x' := ((ρ 2))) (y' := (0 : Int)) (by show 0 + (1 * ρ 2 + 0) = _; omega) (by show 0 + 0 = _; omega) (hm _ (List.mem_cons_of_mem _ List.mem_cons_self))) (cvm (c := 55) (by decide) (x' := (1 : Int)) (y' := ((ρ 2))) (by show 1 + 0 = _; omega) (by show 0 + (1 * ρ 2 + 0) = _; omega) (hm _ (List.mem_cons_of_mem _ (List.mem_cons_of_mem _ List.mem_cons_self)))) (cvm (c := 55) (by decide) (x' := (6 : Int)) (y' := ((ρ 3))) (by show 6 + 0 = _; omega) (by show 0 + (1 * ρ 3 + 0) = _; omega) (hm _ (List.mem_cons_of_mem _ (List.mem_cons_of_mem _ (List.mem_cons_of_mem _ List.mem_cons_self))))) (by have h := hF _ List.mem_cons_self; have h : 0 ≤ 7 + ((-1) * ρ 2 + 0) := h; omega) (by have h := hF _ (List.mem_cons_of_mem _ List.mem_cons_self); have h : 0 ≤ (-7) + (1 * ρ 2 + 0) := h; omega) (by have h := hF _ (List.mem_cons_of_mem _ (List.mem_cons_of_mem _ List.mem_cons_self)); have h : 0 ≤ 0 + (1 * ρ 1 + ((-1) * ρ 3 + 0)) := h; omega) (by have h := hF _ (List.mem_cons_of_mem _ (List.mem_cons_of_mem _ (List.mem_cons_of_mem _ List.mem_cons_self))); have h : 0 ≤ 0 + ((-1) * ρ 1 + (1 * ρ 3 + 0)) := h; omega) hG
  obtain ⟨k0, -⟩ := H
  exact ⟨_, List.mem_cons_self, ρ, fun _ _ => rfl, (okM_c (pvp 317 (by show 0 + (1 * ρ 0 + 0) = _; omega) (by show 0 + (1 * ρ 0 + 0) = _; omega) k0) okM_n), okB_n, okF_n⟩
-- gh7
theorem cr_902 (M : pM) (s0 s1 s2 : Int) (b0 : 0 ≤ s0 ∧ s0 ≤ 2) (b1 : 1 ≤ s1 ∧ s1 ≤ 3) (b2 : 0 ≤ s2 ∧ s2 ≤ 9) (m0 : HP 317 (s0) (s1) M) (m1 : (0 ≤ (7 : Int) ∧ M 59 (7 : Int).toNat = (s0))) (m2 : (0 ≤ (1 : Int) ∧ M 55 (1 : Int).toNat = (s2))) (f0 : 0 ≤ ((-1) * s0 + s1 - 1)) (f1 : 0 ≤ (s2 - 8)) (hG : gI M) : (HP 318 (0 : Int) (s1) M ∧ True) := by
  obtain ⟨j0, T0, t1, t2, t3, t4, t5, t6, t7⟩ := Eq.mp hp_317 m0
  have hj : hrow 59 8 M 7 = s0.toNat := hrow_v (by decide) (by have h : M 59 7 = s0 := m1.2; rw [h]; omega)
  have hp : ∀ o, o < 7 → hrow 59 8 M o = hrow 59 7 M o := fun o ho => hrow_lt ho (by decide)
  have en : hnC M = s2.toNat := hnC_v (by omega) (by have h : M 55 1 = s2 := m2.2; rw [h]; omega)
  have ej : j0 = s0.toNat := by omega
  subst ej
  exact ⟨Eq.mpr hp_318 ⟨0, T0, t1, t2, by omega, by omega, by omega, fun o ho => by
      by_cases e : o = 7
      · rw [e, hj]; omega
      · rw [hp o (by omega)]; exact t6 o (by omega), hj_dn t1 hp hj (by omega) t7⟩, trivial⟩
theorem rul_902 : Rul r_902 := by
  refine ⟨fun _ ρ M hm hB hF hG => ?_, fun gi gv hg => (by cases hg)⟩
  have H := cr_902 M (ρ 0) (ρ 1) (ρ 2) (hB _ List.mem_cons_self) (hB _ (List.mem_cons_of_mem _ List.mem_cons_self)) (hB _ (List.mem_cons_of_mem _ (List.mem_cons_of_mem _ List.mem_cons_self))) (cvp 317 (x' := ((ρ 0))) (y' := ((ρ 1))) (by show 0 + (1 * ρ 0 + 0) = _; omega) (by show 0 + (1 * ρ 1 + 0) = _; omega) (hm _ List.mem_cons_self)) (cvm (c := 59) (by decide) (x' := (7 : Int)) (y' := ((ρ 0))) (by show 7 + 0 = _; omega) (by show 0 + (1 * ρ 0 + 0) = _; omega) (hm _ (List.mem_cons_of_mem _ List.mem_cons_self))) (cvm (c := 55) (by decide) (x' := (1 : Int)) (y' := ((ρ 2))) (by show 1 + 0 = _; omega) (by show 0 + (1 * ρ 2 + 0) = _; omega) (hm _ (List.mem_cons_of_mem _ (List.mem_cons_of_mem _ List.mem_cons_self)))) (by have h := hF _ List.mem_cons_self; have h : 0 ≤ (-1) + ((-1) * ρ 0 + (1 * ρ 1 + 0)) := h; omega) (by have h := hF _ (List.mem_cons_of_mem _ List.mem_cons_self); have h : 0 ≤ (-8) + (1 * ρ 2 + 0) := h; omega) hG
  obtain ⟨k0, -⟩ := H
  exact ⟨_, List.mem_cons_self, ρ, fun _ _ => rfl, (okM_c (pvp 318 (by show 0 + 0 = _; omega) (by show 0 + (1 * ρ 1 + 0) = _; omega) k0) okM_n), okB_n, okF_n⟩
-- gld7
theorem cr_903 (M : pM) (s0 s1 s2 s3 : Int) (b0 : 0 ≤ s0 ∧ s0 ≤ 2) (b1 : (-2147483648) ≤ s1 ∧ s1 ≤ 2147483647) (b2 : 0 ≤ s2 ∧ s2 ≤ 3) (b3 : 0 ≤ s3 ∧ s3 ≤ 35640) (m0 : HP 337 (0 : Int) (0 : Int) M) (m1 : (0 ≤ (s0) ∧ M 58 (s0).toNat = (s1))) (m2 : HP 327 (s2) (s3) M) (hG : gI M) : (0 ≤ (s1) ∧ 0 ≤ ((-1) * s1 + s3) ∧ True) := by
  obtain ⟨j1, x1, x2, x3⟩ := Eq.mp hp_327 m2
  have k1 := (Eq.mp hp_337 m0) s0.toNat (by omega)
  rw [m1.2] at k1
  have k2 := hps_0 (t := (hrow 59 7 M)) (a := s0.toNat) (hmC_0 hG) 7
  have k3 := x3.1 s0.toNat (by omega)
  exact ⟨by omega, by omega, trivial⟩
theorem rul_903 : Rul r_903 := by
  refine ⟨fun _ ρ M hm hB hF hG => ?_, fun gi gv hg => (by cases hg)⟩
  have H := cr_903 M (ρ 0) (ρ 1) (ρ 2) (ρ 3) (hB _ List.mem_cons_self) (hB _ (List.mem_cons_of_mem _ List.mem_cons_self)) (hB _ (List.mem_cons_of_mem _ (List.mem_cons_of_mem _ List.mem_cons_self))) (hB _ (List.mem_cons_of_mem _ (List.mem_cons_of_mem _ (List.mem_cons_of_mem _ List.mem_cons_self)))) (cvp 337 (x' := (0 : Int)) (y' := (0 : Int)) (by show 0 + 0 = _; omega) (by show 0 + 0 = _; omega) (hm _ List.mem_cons_self)) (cvm (c := 58) (by decide) (x' := ((ρ 0))) (y' := ((ρ 1))) (by show 0 + (1 * ρ 0 + 0) = _; omega) (by show 0 + (1 * ρ 1 + 0) = _; omega) (hm _ (List.mem_cons_of_mem _ List.mem_cons_self))) (cvp 327 (x' := ((ρ 2))) (y' := ((ρ 3))) (by show 0 + (1 * ρ 2 + 0) = _; omega) (by show 0 + (1 * ρ 3 + 0) = _; omega) (hm _ (List.mem_cons_of_mem _ (List.mem_cons_of_mem _ List.mem_cons_self)))) hG
  obtain ⟨f0, f1, -⟩ := H
  exact ⟨_, List.mem_cons_self, ρ, fun _ _ => rfl, okM_n, okB_n, (okF_c (by show 0 ≤ 0 + (1 * ρ 1 + 0); omega) (okF_c (by show 0 ≤ 0 + ((-1) * ρ 1 + (1 * ρ 3 + 0)); omega) okF_n))⟩
-- gl7
theorem cr_904 (M : pM) (s0 s1 s2 s3 : Int) (b0 : 0 ≤ s0 ∧ s0 ≤ 2) (b1 : 0 ≤ s1 ∧ s1 ≤ 63) (b2 : 0 ≤ s2 ∧ s2 ≤ 1980) (b3 : 0 ≤ s3 ∧ s3 ≤ 35640) (m0 : HP 337 (0 : Int) (0 : Int) M) (m1 : (0 ≤ (s0) ∧ M 58 (s0).toNat = (s3))) (m2 : (0 ≤ (7 : Int) ∧ M 59 (7 : Int).toNat = (s0))) (m3 : (0 ≤ (7 : Int) ∧ M 56 (7 : Int).toNat = (s1))) (m4 : (0 ≤ (s1) ∧ M 57 (s1).toNat = (s2))) (hG : gI M) : (HP 338 (0 : Int) (0 : Int) (st M 58 (s0).toNat (2 * s2 + s3)) ∧ True) := by
  have hj : hrow 59 8 M 7 = s0.toNat := hrow_v (by decide) (by have h : M 59 7 = s0 := m2.2; rw [h]; omega)
  have hp : ∀ o, o < 7 → hrow 59 8 M o = hrow 59 7 M o := fun o ho => hrow_lt ho (by decide)
  have hz : 2 * s2 = hmC M 7 := (hmC_v (o := 7) (c := s1.toNat) (by decide) (by omega) (by have h : M 56 7 = s1 := m3.2; rw [h]; omega) m4.2).symm
  have hl := Eq.mp hp_337 m0
  refine ⟨Eq.mpr hp_338 (fun a ha => ?_), trivial⟩
  rw [hmC_st (by decide) (by decide), hrow_st (by decide)]
  exact ld_u (R := fun a => M 58 a) (R' := fun a => st M 58 (s0).toNat (2 * s2 + s3) 58 a) hp hj hl (fun a ha => by
      show st M 58 (s0).toNat (2 * s2 + s3) 58 a = if a = s0.toNat then M 58 s0.toNat + 2 * s2 else M 58 a
      rw [hst_v]
      by_cases e : a = s0.toNat
      · rw [if_pos e, if_pos e, m1.2]; omega
      · rw [if_neg e, if_neg e]) hz (by omega) a ha
theorem rul_904 : Rul r_904 := by
  refine ⟨fun h => (by cases h), fun gi gv hg ρ M hm hB hF hG => ?_⟩
  obtain ⟨g1, g2⟩ := List.cons.inj (show ([aI ((0 : Int), ([(0, 1)] : List (Nat × Int))), aI ((0 : Int), ([(2, 2), (3, 1)] : List (Nat × Int)))] : List av) = [.inl gi, .inl gv] from hg)
  obtain ⟨g2, -⟩ := List.cons.inj g2
  cases g1
  cases g2
  have ei : ev ρ ((0 : Int), ([(0, 1)] : List (Nat × Int))) = ((ρ 0)) := by show 0 + (1 * ρ 0 + 0) = _; omega
  have ew : ev ρ ((0 : Int), ([(2, 2), (3, 1)] : List (Nat × Int))) = (2 * (ρ 2) + (ρ 3)) := by show 0 + (2 * ρ 2 + (1 * ρ 3 + 0)) = _; omega
  rw [show (st M (ctj r_904) (ev ρ ((0 : Int), ([(0, 1)] : List (Nat × Int)))).toNat (ev ρ ((0 : Int), ([(2, 2), (3, 1)] : List (Nat × Int))))) = (st M 58 ((ρ 0)).toNat (2 * (ρ 2) + (ρ 3))) from by rw [ei, ew]; rfl]
  have H := cr_904 M (ρ 0) (ρ 1) (ρ 2) (ρ 3) (hB _ List.mem_cons_self) (hB _ (List.mem_cons_of_mem _ List.mem_cons_self)) (hB _ (List.mem_cons_of_mem _ (List.mem_cons_of_mem _ List.mem_cons_self))) (hB _ (List.mem_cons_of_mem _ (List.mem_cons_of_mem _ (List.mem_cons_of_mem _ List.mem_cons_self)))) (cvp 337 (x' := (0 : Int)) (y' := (0 : Int)) (by show 0 + 0 = _; omega) (by show 0 + 0 = _; omega) (hm _ List.mem_cons_self)) (cvm (c := 58) (by decide) (x' := ((ρ 0))) (y' := ((ρ 3))) (by show 0 + (1 * ρ 0 + 0) = _; omega) (by show 0 + (1 * ρ 3 + 0) = _; omega) (hm _ (List.mem_cons_of_mem _ List.mem_cons_self))) (cvm (c := 59) (by decide) (x' := (7 : Int)) (y' := ((ρ 0))) (by show 7 + 0 = _; omega) (by show 0 + (1 * ρ 0 + 0) = _; omega) (hm _ (List.mem_cons_of_mem _ (List.mem_cons_of_mem _ List.mem_cons_self)))) (cvm (c := 56) (by decide) (x' := (7 : Int)) (y' := ((ρ 1))) (by show 7 + 0 = _; omega) (by show 0 + (1 * ρ 1 + 0) = _; omega) (hm _ (List.mem_cons_of_mem _ (List.mem_cons_of_mem _ (List.mem_cons_of_mem _ List.mem_cons_self))))) (cvm (c := 57) (by decide) (x' := ((ρ 1))) (y' := ((ρ 2))) (by show 0 + (1 * ρ 1 + 0) = _; omega) (by show 0 + (1 * ρ 2 + 0) = _; omega) (hm _ (List.mem_cons_of_mem _ (List.mem_cons_of_mem _ (List.mem_cons_of_mem _ (List.mem_cons_of_mem _ List.mem_cons_self)))))) hG
  obtain ⟨k0, -⟩ := H
  exact ⟨_, List.mem_cons_self, ρ, fun _ _ => rfl, (okM_c (pvp 338 (by show 0 + 0 = _; omega) (by show 0 + 0 = _; omega) k0) okM_n), okB_n, okF_n⟩
-- gm0_7
theorem cr_905 (M : pM) (s0 s1 s2 : Int) (b0 : 0 ≤ s0 ∧ s0 ≤ 2) (b1 : 0 ≤ s1 ∧ s1 ≤ 35640) (b2 : (-2147483648) ≤ s2 ∧ s2 ≤ 2147483647) (m0 : HP 327 (s0) (s1) M) (m1 : (0 ≤ (7 : Int) ∧ M 59 (7 : Int).toNat = (s0))) (m2 : HP 338 (0 : Int) (0 : Int) M) (m3 : (0 ≤ (s0) ∧ M 58 (s0).toNat = (s2))) (f0 : 0 ≤ (s1 + (-1) * s2)) (hG : gI M) : (HP 328 (0 : Int) (s1) M ∧ True) := by
  obtain ⟨j1, x1, x2, x3⟩ := Eq.mp hp_327 m0
  have hj : hrow 59 8 M 7 = s0.toNat := hrow_v (by decide) (by have h : M 59 7 = s0 := m1.2; rw [h]; omega)
  have hp : ∀ o, o < 7 → hrow 59 8 M o = hrow 59 7 M o := fun o ho => hrow_lt ho (by decide)
  have ej : j1 = s0.toNat := by omega
  subst ej
  have k1 := (Eq.mp hp_338 m2) s0.toNat (by omega)
  rw [m3.2] at k1
  have z := mx_u (hmC_0 hG) hp hj (by omega) x3 k1.symm
  rw [show max s1 s2 = s1 by omega] at z
  exact ⟨Eq.mpr hp_328 ⟨0, by omega, by omega, z⟩, trivial⟩
theorem rul_905 : Rul r_905 := by
  refine ⟨fun _ ρ M hm hB hF hG => ?_, fun gi gv hg => (by cases hg)⟩
  have H := cr_905 M (ρ 0) (ρ 1) (ρ 2) (hB _ List.mem_cons_self) (hB _ (List.mem_cons_of_mem _ List.mem_cons_self)) (hB _ (List.mem_cons_of_mem _ (List.mem_cons_of_mem _ List.mem_cons_self))) (cvp 327 (x' := ((ρ 0))) (y' := ((ρ 1))) (by show 0 + (1 * ρ 0 + 0) = _; omega) (by show 0 + (1 * ρ 1 + 0) = _; omega) (hm _ List.mem_cons_self)) (cvm (c := 59) (by decide) (x' := (7 : Int)) (y' := ((ρ 0))) (by show 7 + 0 = _; omega) (by show 0 + (1 * ρ 0 + 0) = _; omega) (hm _ (List.mem_cons_of_mem _ List.mem_cons_self))) (cvp 338 (x' := (0 : Int)) (y' := (0 : Int)) (by show 0 + 0 = _; omega) (by show 0 + 0 = _; omega) (hm _ (List.mem_cons_of_mem _ (List.mem_cons_of_mem _ List.mem_cons_self)))) (cvm (c := 58) (by decide) (x' := ((ρ 0))) (y' := ((ρ 2))) (by show 0 + (1 * ρ 0 + 0) = _; omega) (by show 0 + (1 * ρ 2 + 0) = _; omega) (hm _ (List.mem_cons_of_mem _ (List.mem_cons_of_mem _ (List.mem_cons_of_mem _ List.mem_cons_self))))) (by have h := hF _ List.mem_cons_self; have h : 0 ≤ 0 + (1 * ρ 1 + ((-1) * ρ 2 + 0)) := h; omega) hG
  obtain ⟨k0, -⟩ := H
  exact ⟨_, List.mem_cons_self, ρ, fun _ _ => rfl, (okM_c (pvp 328 (by show 0 + 0 = _; omega) (by show 0 + (1 * ρ 1 + 0) = _; omega) k0) okM_n), okB_n, okF_n⟩
-- gm1_7
theorem cr_906 (M : pM) (s0 s1 s2 : Int) (b0 : 0 ≤ s0 ∧ s0 ≤ 2) (b1 : 0 ≤ s1 ∧ s1 ≤ 35640) (b2 : (-2147483648) ≤ s2 ∧ s2 ≤ 2147483647) (m0 : HP 327 (s0) (s1) M) (m1 : (0 ≤ (7 : Int) ∧ M 59 (7 : Int).toNat = (s0))) (m2 : HP 338 (0 : Int) (0 : Int) M) (m3 : (0 ≤ (s0) ∧ M 58 (s0).toNat = (s2))) (f0 : 0 ≤ ((-1) * s1 + s2 - 1)) (hG : gI M) : (HP 328 (0 : Int) (s2) M ∧ True) := by
  obtain ⟨j1, x1, x2, x3⟩ := Eq.mp hp_327 m0
  have hj : hrow 59 8 M 7 = s0.toNat := hrow_v (by decide) (by have h : M 59 7 = s0 := m1.2; rw [h]; omega)
  have hp : ∀ o, o < 7 → hrow 59 8 M o = hrow 59 7 M o := fun o ho => hrow_lt ho (by decide)
  have ej : j1 = s0.toNat := by omega
  subst ej
  have k1 := (Eq.mp hp_338 m2) s0.toNat (by omega)
  rw [m3.2] at k1
  have z := mx_u (hmC_0 hG) hp hj (by omega) x3 k1.symm
  rw [show max s1 s2 = s2 by omega] at z
  exact ⟨Eq.mpr hp_328 ⟨0, by omega, by omega, z⟩, trivial⟩
theorem rul_906 : Rul r_906 := by
  refine ⟨fun _ ρ M hm hB hF hG => ?_, fun gi gv hg => (by cases hg)⟩
  have H := cr_906 M (ρ 0) (ρ 1) (ρ 2) (hB _ List.mem_cons_self) (hB _ (List.mem_cons_of_mem _ List.mem_cons_self)) (hB _ (List.mem_cons_of_mem _ (List.mem_cons_of_mem _ List.mem_cons_self))) (cvp 327 (x' := ((ρ 0))) (y' := ((ρ 1))) (by show 0 + (1 * ρ 0 + 0) = _; omega) (by show 0 + (1 * ρ 1 + 0) = _; omega) (hm _ List.mem_cons_self)) (cvm (c := 59) (by decide) (x' := (7 : Int)) (y' := ((ρ 0))) (by show 7 + 0 = _; omega) (by show 0 + (1 * ρ 0 + 0) = _; omega) (hm _ (List.mem_cons_of_mem _ List.mem_cons_self))) (cvp 338 (x' := (0 : Int)) (y' := (0 : Int)) (by show 0 + 0 = _; omega) (by show 0 + 0 = _; omega) (hm _ (List.mem_cons_of_mem _ (List.mem_cons_of_mem _ List.mem_cons_self)))) (cvm (c := 58) (by decide) (x' := ((ρ 0))) (y' := ((ρ 2))) (by show 0 + (1 * ρ 0 + 0) = _; omega) (by show 0 + (1 * ρ 2 + 0) = _; omega) (hm _ (List.mem_cons_of_mem _ (List.mem_cons_of_mem _ (List.mem_cons_of_mem _ List.mem_cons_self))))) (by have h := hF _ List.mem_cons_self; have h : 0 ≤ (-1) + ((-1) * ρ 1 + (1 * ρ 2 + 0)) := h; omega) hG
  obtain ⟨k0, -⟩ := H
  exact ⟨_, List.mem_cons_self, ρ, fun _ _ => rfl, (okM_c (pvp 328 (by show 0 + 0 = _; omega) (by show 0 + (1 * ρ 2 + 0) = _; omega) k0) okM_n), okB_n, okF_n⟩
-- gs7
theorem cr_907 (M : pM) (s0 s1 s2 s3 : Int) (b0 : 0 ≤ s0 ∧ s0 ≤ 2) (b1 : 0 ≤ s1 ∧ s1 ≤ 63) (b2 : 0 ≤ s2 ∧ s2 ≤ 1980) (b3 : (-2147483648) ≤ s3 ∧ s3 ≤ 2147483647) (m0 : HP 338 (0 : Int) (0 : Int) M) (m1 : (0 ≤ (s0) ∧ M 58 (s0).toNat = (s3))) (m2 : (0 ≤ (7 : Int) ∧ M 59 (7 : Int).toNat = (s0))) (m3 : (0 ≤ (7 : Int) ∧ M 56 (7 : Int).toNat = (s1))) (m4 : (0 ≤ (s1) ∧ M 57 (s1).toNat = (s2))) (hG : gI M) : (HP 337 (0 : Int) (0 : Int) (st M 58 (s0).toNat ((-2) * s2 + s3)) ∧ True) := by
  have hj : hrow 59 8 M 7 = s0.toNat := hrow_v (by decide) (by have h : M 59 7 = s0 := m2.2; rw [h]; omega)
  have hp : ∀ o, o < 7 → hrow 59 8 M o = hrow 59 7 M o := fun o ho => hrow_lt ho (by decide)
  have hz : 2 * s2 = hmC M 7 := (hmC_v (o := 7) (c := s1.toNat) (by decide) (by omega) (by have h : M 56 7 = s1 := m3.2; rw [h]; omega) m4.2).symm
  have hl := Eq.mp hp_338 m0
  refine ⟨Eq.mpr hp_337 (fun a ha => ?_), trivial⟩
  rw [hmC_st (by decide) (by decide), hrow_st (by decide)]
  exact ld_d (R := fun a => M 58 a) (R' := fun a => st M 58 (s0).toNat ((-2) * s2 + s3) 58 a) hp hj hl (fun a ha => by
      show st M 58 (s0).toNat ((-2) * s2 + s3) 58 a = if a = s0.toNat then M 58 s0.toNat - 2 * s2 else M 58 a
      rw [hst_v]
      by_cases e : a = s0.toNat
      · rw [if_pos e, if_pos e, m1.2]; omega
      · rw [if_neg e, if_neg e]) hz (by omega) a ha
theorem rul_907 : Rul r_907 := by
  refine ⟨fun h => (by cases h), fun gi gv hg ρ M hm hB hF hG => ?_⟩
  obtain ⟨g1, g2⟩ := List.cons.inj (show ([aI ((0 : Int), ([(0, 1)] : List (Nat × Int))), aI ((0 : Int), ([(2, (-2)), (3, 1)] : List (Nat × Int)))] : List av) = [.inl gi, .inl gv] from hg)
  obtain ⟨g2, -⟩ := List.cons.inj g2
  cases g1
  cases g2
  have ei : ev ρ ((0 : Int), ([(0, 1)] : List (Nat × Int))) = ((ρ 0)) := by show 0 + (1 * ρ 0 + 0) = _; omega
  have ew : ev ρ ((0 : Int), ([(2, (-2)), (3, 1)] : List (Nat × Int))) = ((-2) * (ρ 2) + (ρ 3)) := by show 0 + ((-2) * ρ 2 + (1 * ρ 3 + 0)) = _; omega
  rw [show (st M (ctj r_907) (ev ρ ((0 : Int), ([(0, 1)] : List (Nat × Int)))).toNat (ev ρ ((0 : Int), ([(2, (-2)), (3, 1)] : List (Nat × Int))))) = (st M 58 ((ρ 0)).toNat ((-2) * (ρ 2) + (ρ 3))) from by rw [ei, ew]; rfl]
  have H := cr_907 M (ρ 0) (ρ 1) (ρ 2) (ρ 3) (hB _ List.mem_cons_self) (hB _ (List.mem_cons_of_mem _ List.mem_cons_self)) (hB _ (List.mem_cons_of_mem _ (List.mem_cons_of_mem _ List.mem_cons_self))) (hB _ (List.mem_cons_of_mem _ (List.mem_cons_of_mem _ (List.mem_cons_of_mem _ List.mem_cons_self)))) (cvp 338 (x' := (0 : Int)) (y' := (0 : Int)) (by show 0 + 0 = _; omega) (by show 0 + 0 = _; omega) (hm _ List.mem_cons_self)) (cvm (c := 58) (by decide) (x' := ((ρ 0))) (y' := ((ρ 3))) (by show 0 + (1 * ρ 0 + 0) = _; omega) (by show 0 + (1 * ρ 3 + 0) = _; omega) (hm _ (List.mem_cons_of_mem _ List.mem_cons_self))) (cvm (c := 59) (by decide) (x' := (7 : Int)) (y' := ((ρ 0))) (by show 7 + 0 = _; omega) (by show 0 + (1 * ρ 0 + 0) = _; omega) (hm _ (List.mem_cons_of_mem _ (List.mem_cons_of_mem _ List.mem_cons_self)))) (cvm (c := 56) (by decide) (x' := (7 : Int)) (y' := ((ρ 1))) (by show 7 + 0 = _; omega) (by show 0 + (1 * ρ 1 + 0) = _; omega) (hm _ (List.mem_cons_of_mem _ (List.mem_cons_of_mem _ (List.mem_cons_of_mem _ List.mem_cons_self))))) (cvm (c := 57) (by decide) (x' := ((ρ 1))) (y' := ((ρ 2))) (by show 0 + (1 * ρ 1 + 0) = _; omega) (by show 0 + (1 * ρ 2 + 0) = _; omega) (hm _ (List.mem_cons_of_mem _ (List.mem_cons_of_mem _ (List.mem_cons_of_mem _ (List.mem_cons_of_mem _ List.mem_cons_self)))))) hG
  obtain ⟨k0, -⟩ := H
  exact ⟨_, List.mem_cons_self, ρ, fun _ _ => rfl, (okM_c (pvp 337 (by show 0 + 0 = _; omega) (by show 0 + 0 = _; omega) k0) okM_n), okB_n, okF_n⟩
-- gsb7
theorem cr_908 (M : pM) (s0 s1 s2 s3 : Int) (b0 : 0 ≤ s0 ∧ s0 ≤ 2) (b1 : 0 ≤ s1 ∧ s1 ≤ 63) (b2 : 0 ≤ s2 ∧ s2 ≤ 1980) (b3 : (-2147483648) ≤ s3 ∧ s3 ≤ 2147483647) (m0 : HP 338 (0 : Int) (0 : Int) M) (m1 : (0 ≤ (s0) ∧ M 58 (s0).toNat = (s3))) (m2 : (0 ≤ (7 : Int) ∧ M 59 (7 : Int).toNat = (s0))) (m3 : (0 ≤ (7 : Int) ∧ M 56 (7 : Int).toNat = (s1))) (m4 : (0 ≤ (s1) ∧ M 57 (s1).toNat = (s2))) (hG : gI M) : (0 ≤ ((-2) * s2 + s3) ∧ True) := by
  have hj : hrow 59 8 M 7 = s0.toNat := hrow_v (by decide) (by have h : M 59 7 = s0 := m2.2; rw [h]; omega)
  have hp : ∀ o, o < 7 → hrow 59 8 M o = hrow 59 7 M o := fun o ho => hrow_lt ho (by decide)
  have hz : 2 * s2 = hmC M 7 := (hmC_v (o := 7) (c := s1.toNat) (by decide) (by omega) (by have h : M 56 7 = s1 := m3.2; rw [h]; omega) m4.2).symm
  have k1 := (Eq.mp hp_338 m0) s0.toNat (by omega)
  rw [m1.2] at k1
  have k2 : hps (hmC M) (hrow 59 8 M) s0.toNat 8 = hps (hmC M) (hrow 59 8 M) s0.toNat 7 + (if hrow 59 8 M 7 = s0.toNat then hmC M 7 else 0) := rfl
  rw [hj, if_pos rfl] at k2
  have k3 := hps_0 (t := hrow 59 8 M) (a := s0.toNat) (hmC_0 hG) 7
  exact ⟨by omega, trivial⟩
theorem rul_908 : Rul r_908 := by
  refine ⟨fun _ ρ M hm hB hF hG => ?_, fun gi gv hg => (by cases hg)⟩
  have H := cr_908 M (ρ 0) (ρ 1) (ρ 2) (ρ 3) (hB _ List.mem_cons_self) (hB _ (List.mem_cons_of_mem _ List.mem_cons_self)) (hB _ (List.mem_cons_of_mem _ (List.mem_cons_of_mem _ List.mem_cons_self))) (hB _ (List.mem_cons_of_mem _ (List.mem_cons_of_mem _ (List.mem_cons_of_mem _ List.mem_cons_self)))) (cvp 338 (x' := (0 : Int)) (y' := (0 : Int)) (by show 0 + 0 = _; omega) (by show 0 + 0 = _; omega) (hm _ List.mem_cons_self)) (cvm (c := 58) (by decide) (x' := ((ρ 0))) (y' := ((ρ 3))) (by show 0 + (1 * ρ 0 + 0) = _; omega) (by show 0 + (1 * ρ 3 + 0) = _; omega) (hm _ (List.mem_cons_of_mem _ List.mem_cons_self))) (cvm (c := 59) (by decide) (x' := (7 : Int)) (y' := ((ρ 0))) (by show 7 + 0 = _; omega) (by show 0 + (1 * ρ 0 + 0) = _; omega) (hm _ (List.mem_cons_of_mem _ (List.mem_cons_of_mem _ List.mem_cons_self)))) (cvm (c := 56) (by decide) (x' := (7 : Int)) (y' := ((ρ 1))) (by show 7 + 0 = _; omega) (by show 0 + (1 * ρ 1 + 0) = _; omega) (hm _ (List.mem_cons_of_mem _ (List.mem_cons_of_mem _ (List.mem_cons_of_mem _ List.mem_cons_self))))) (cvm (c := 57) (by decide) (x' := ((ρ 1))) (y' := ((ρ 2))) (by show 0 + (1 * ρ 1 + 0) = _; omega) (by show 0 + (1 * ρ 2 + 0) = _; omega) (hm _ (List.mem_cons_of_mem _ (List.mem_cons_of_mem _ (List.mem_cons_of_mem _ (List.mem_cons_of_mem _ List.mem_cons_self)))))) hG
  obtain ⟨f0, -⟩ := H
  exact ⟨_, List.mem_cons_self, ρ, fun _ _ => rfl, okM_n, okB_n, (okF_c (by show 0 ≤ 0 + ((-2) * ρ 2 + (1 * ρ 3 + 0)); omega) okF_n)⟩
-- gn7
theorem cr_909 (M : pM) (s0 s1 s2 : Int) (b0 : 0 ≤ s0 ∧ s0 ≤ 2) (b1 : 1 ≤ s1 ∧ s1 ≤ 3) (b2 : 0 ≤ s2 ∧ s2 ≤ 9) (m0 : HP 318 (s1) (s1) M) (m1 : (0 ≤ (7 : Int) ∧ M 59 (7 : Int).toNat = (s0))) (m2 : (0 ≤ (1 : Int) ∧ M 55 (1 : Int).toNat = (s2))) (f0 : 0 ≤ ((-1) * s0 + s1 - 1)) (f1 : 0 ≤ (s2 - 8)) (hG : gI M) : (HP 317 (s0 + 1) (s1) M ∧ True) := by
  obtain ⟨j0, T0, t1, t2, t3, t4, t5, t6, t7⟩ := Eq.mp hp_318 m0
  have hj : hrow 59 8 M 7 = s0.toNat := hrow_v (by decide) (by have h : M 59 7 = s0 := m1.2; rw [h]; omega)
  have hp : ∀ o, o < 7 → hrow 59 8 M o = hrow 59 7 M o := fun o ho => hrow_lt ho (by decide)
  have en : hnC M = s2.toNat := hnC_v (by omega) (by have h : M 55 1 = s2 := m2.2; rw [h]; omega)
  have ej : j0 = T0 := by omega
  subst ej
  exact ⟨Eq.mpr hp_317 ⟨s0.toNat + 1, j0, t1, t2, by omega, by omega, by omega, fun o ho => by rw [← hp o ho]; exact t6 o (by omega), hj_up hp hj (by omega) (by rw [en]; omega) t7⟩, trivial⟩
theorem rul_909 : Rul r_909 := by
  refine ⟨fun _ ρ M hm hB hF hG => ?_, fun gi gv hg => (by cases hg)⟩
  have H := cr_909 M (ρ 0) (ρ 1) (ρ 2) (hB _ List.mem_cons_self) (hB _ (List.mem_cons_of_mem _ List.mem_cons_self)) (hB _ (List.mem_cons_of_mem _ (List.mem_cons_of_mem _ List.mem_cons_self))) (cvp 318 (x' := ((ρ 1))) (y' := ((ρ 1))) (by show 0 + (1 * ρ 1 + 0) = _; omega) (by show 0 + (1 * ρ 1 + 0) = _; omega) (hm _ List.mem_cons_self)) (cvm (c := 59) (by decide) (x' := (7 : Int)) (y' := ((ρ 0))) (by show 7 + 0 = _; omega) (by show 0 + (1 * ρ 0 + 0) = _; omega) (hm _ (List.mem_cons_of_mem _ List.mem_cons_self))) (cvm (c := 55) (by decide) (x' := (1 : Int)) (y' := ((ρ 2))) (by show 1 + 0 = _; omega) (by show 0 + (1 * ρ 2 + 0) = _; omega) (hm _ (List.mem_cons_of_mem _ (List.mem_cons_of_mem _ List.mem_cons_self)))) (by have h := hF _ List.mem_cons_self; have h : 0 ≤ (-1) + ((-1) * ρ 0 + (1 * ρ 1 + 0)) := h; omega) (by have h := hF _ (List.mem_cons_of_mem _ List.mem_cons_self); have h : 0 ≤ (-8) + (1 * ρ 2 + 0) := h; omega) hG
  obtain ⟨k0, -⟩ := H
  exact ⟨_, List.mem_cons_self, ρ, fun _ _ => rfl, (okM_c (pvp 317 (by show 1 + (1 * ρ 0 + 0) = _; omega) (by show 0 + (1 * ρ 1 + 0) = _; omega) k0) okM_n), okB_n, okF_n⟩
-- ge7
theorem cr_910 (M : pM) (s0 s1 s2 s3 s4 : Int) (b0 : 0 ≤ s0 ∧ s0 ≤ 2) (b1 : 1 ≤ s1 ∧ s1 ≤ 3) (b2 : 0 ≤ s2 ∧ s2 ≤ 35640) (b3 : 0 ≤ s3 ∧ s3 ≤ 0) (b4 : 0 ≤ s4 ∧ s4 ≤ 9) (m0 : HP 317 (s0 + 1) (s1) M) (m1 : HP 337 (0 : Int) (0 : Int) M) (m2 : (0 ≤ (s0) ∧ M 58 (s0).toNat = (s3))) (m3 : HP 327 (s0) (s2) M) (m4 : (0 ≤ (1 : Int) ∧ M 55 (1 : Int).toNat = (s4))) (f0 : 0 ≤ (s4 - 8)) (f1 : 0 ≤ ((-1) * s0 + s1 - 1)) (hG : gI M) : (HP 317 (s1) (s1) M ∧ True) := by
  obtain ⟨j0, T0, t1, t2, t3, t4, t5, t6, t7⟩ := Eq.mp hp_317 m0
  obtain ⟨j1, x1, x2, x3⟩ := Eq.mp hp_327 m3
  have en : hnC M = s4.toNat := hnC_v (by omega) (by have h : M 55 1 = s4 := m4.2; rw [h]; omega)
  have ej : j1 = s0.toNat := by omega
  subst ej
  have ek : j0 = s0.toNat + 1 := by omega
  subst ek
  have k1 := (Eq.mp hp_337 m1) s0.toNat (by omega)
  rw [m2.2] at k1
  exact ⟨Eq.mpr hp_317 ⟨T0, T0, t1, t2, Nat.le_refl _, by omega, by omega, t6, hj_sw (by rw [en]; omega) (by omega) t2 t7 x3 (by omega)⟩, trivial⟩
theorem rul_910 : Rul r_910 := by
  refine ⟨fun _ ρ M hm hB hF hG => ?_, fun gi gv hg => (by cases hg)⟩
  have H := cr_910 M (ρ 0) (ρ 1) (ρ 2) (ρ 3) (ρ 4) (hB _ List.mem_cons_self) (hB _ (List.mem_cons_of_mem _ List.mem_cons_self)) (hB _ (List.mem_cons_of_mem _ (List.mem_cons_of_mem _ List.mem_cons_self))) (hB _ (List.mem_cons_of_mem _ (List.mem_cons_of_mem _ (List.mem_cons_of_mem _ List.mem_cons_self)))) (hB _ (List.mem_cons_of_mem _ (List.mem_cons_of_mem _ (List.mem_cons_of_mem _ (List.mem_cons_of_mem _ List.mem_cons_self))))) (cvp 317 (x' := ((ρ 0) + 1)) (y' := ((ρ 1))) (by show 1 + (1 * ρ 0 + 0) = _; omega) (by show 0 + (1 * ρ 1 + 0) = _; omega) (hm _ List.mem_cons_self)) (cvp 337 (x' := (0 : Int)) (y' := (0 : Int)) (by show 0 + 0 = _; omega) (by show 0 + 0 = _; omega) (hm _ (List.mem_cons_of_mem _ List.mem_cons_self))) (cvm (c := 58) (by decide) (x' := ((ρ 0))) (y' := ((ρ 3))) (by show 0 + (1 * ρ 0 + 0) = _; omega) (by show 0 + (1 * ρ 3 + 0) = _; omega) (hm _ (List.mem_cons_of_mem _ (List.mem_cons_of_mem _ List.mem_cons_self)))) (cvp 327 (x' := ((ρ 0))) (y' := ((ρ 2))) (by show 0 + (1 * ρ 0 + 0) = _; omega) (by show 0 + (1 * ρ 2 + 0) = _; omega) (hm _ (List.mem_cons_of_mem _ (List.mem_cons_of_mem _ (List.mem_cons_of_mem _ List.mem_cons_self))))) (cvm (c := 55) (by decide) (x' := (1 : Int)) (y' := ((ρ 4))) (by show 1 + 0 = _; omega) (by show 0 + (1 * ρ 4 + 0) = _; omega) (hm _ (List.mem_cons_of_mem _ (List.mem_cons_of_mem _ (List.mem_cons_of_mem _ (List.mem_cons_of_mem _ List.mem_cons_self)))))) (by have h := hF _ List.mem_cons_self; have h : 0 ≤ (-8) + (1 * ρ 4 + 0) := h; omega) (by have h := hF _ (List.mem_cons_of_mem _ List.mem_cons_self); have h : 0 ≤ (-1) + ((-1) * ρ 0 + (1 * ρ 1 + 0)) := h; omega) hG
  obtain ⟨k0, -⟩ := H
  exact ⟨_, List.mem_cons_self, ρ, fun _ _ => rfl, (okM_c (pvp 317 (by show 0 + (1 * ρ 1 + 0) = _; omega) (by show 0 + (1 * ρ 1 + 0) = _; omega) k0) okM_n), okB_n, okF_n⟩
-- gz7
theorem cr_911 (M : pM) (s0 s1 s2 : Int) (b0 : 0 ≤ s0 ∧ s0 ≤ 2) (b1 : 0 ≤ s1 ∧ s1 ≤ 35640) (b2 : (-2147483648) ≤ s2 ∧ s2 ≤ 2147483647) (m0 : HP 327 (s0) (s1) M) (m1 : HP 337 (0 : Int) (0 : Int) M) (m2 : (0 ≤ (s0) ∧ M 58 (s0).toNat = (s2))) (f0 : 0 ≤ (s2 - 1)) (hG : gI M) : (HP 327 (s0 + 1) (s1) M ∧ True) := by
  obtain ⟨j1, x1, x2, x3⟩ := Eq.mp hp_327 m0
  have ej : j1 = s0.toNat := by omega
  subst ej
  have k1 := (Eq.mp hp_337 m1) s0.toNat (by omega)
  rw [m2.2] at k1
  exact ⟨Eq.mpr hp_327 ⟨s0.toNat + 1, by omega, by omega, mx_z x3 (by omega)⟩, trivial⟩
theorem rul_911 : Rul r_911 := by
  refine ⟨fun _ ρ M hm hB hF hG => ?_, fun gi gv hg => (by cases hg)⟩
  have H := cr_911 M (ρ 0) (ρ 1) (ρ 2) (hB _ List.mem_cons_self) (hB _ (List.mem_cons_of_mem _ List.mem_cons_self)) (hB _ (List.mem_cons_of_mem _ (List.mem_cons_of_mem _ List.mem_cons_self))) (cvp 327 (x' := ((ρ 0))) (y' := ((ρ 1))) (by show 0 + (1 * ρ 0 + 0) = _; omega) (by show 0 + (1 * ρ 1 + 0) = _; omega) (hm _ List.mem_cons_self)) (cvp 337 (x' := (0 : Int)) (y' := (0 : Int)) (by show 0 + 0 = _; omega) (by show 0 + 0 = _; omega) (hm _ (List.mem_cons_of_mem _ List.mem_cons_self))) (cvm (c := 58) (by decide) (x' := ((ρ 0))) (y' := ((ρ 2))) (by show 0 + (1 * ρ 0 + 0) = _; omega) (by show 0 + (1 * ρ 2 + 0) = _; omega) (hm _ (List.mem_cons_of_mem _ (List.mem_cons_of_mem _ List.mem_cons_self)))) (by have h := hF _ List.mem_cons_self; have h : 0 ≤ (-1) + (1 * ρ 2 + 0) := h; omega) hG
  obtain ⟨k0, -⟩ := H
  exact ⟨_, List.mem_cons_self, ρ, fun _ _ => rfl, (okM_c (pvp 327 (by show 1 + (1 * ρ 0 + 0) = _; omega) (by show 0 + (1 * ρ 1 + 0) = _; omega) k0) okM_n), okB_n, okF_n⟩
-- gf7
theorem cr_912 (M : pM) (s0 s1 : Int) (b0 : 0 ≤ s0 ∧ s0 ≤ 3) (b1 : 1 ≤ s1 ∧ s1 ≤ 3) (m0 : HP 317 (s0) (s1) M) (f0 : 0 ≤ (s0 + (-1) * s1)) (f1 : 0 ≤ ((-1) * s0 + s1)) (hG : gI M) : (HP 317 (s1) (s1) M ∧ True) := by
  obtain ⟨j0, T0, t1, t2, t3, t4, t5, t6, t7⟩ := Eq.mp hp_317 m0
  have ej : j0 = T0 := by omega
  subst ej
  exact ⟨Eq.mpr hp_317 ⟨j0, j0, t1, t2, Nat.le_refl _, by omega, by omega, t6, t7⟩, trivial⟩
theorem rul_912 : Rul r_912 := by
  refine ⟨fun _ ρ M hm hB hF hG => ?_, fun gi gv hg => (by cases hg)⟩
  have H := cr_912 M (ρ 0) (ρ 1) (hB _ List.mem_cons_self) (hB _ (List.mem_cons_of_mem _ List.mem_cons_self)) (cvp 317 (x' := ((ρ 0))) (y' := ((ρ 1))) (by show 0 + (1 * ρ 0 + 0) = _; omega) (by show 0 + (1 * ρ 1 + 0) = _; omega) (hm _ List.mem_cons_self)) (by have h := hF _ List.mem_cons_self; have h : 0 ≤ 0 + (1 * ρ 0 + ((-1) * ρ 1 + 0)) := h; omega) (by have h := hF _ (List.mem_cons_of_mem _ List.mem_cons_self); have h : 0 ≤ 0 + ((-1) * ρ 0 + (1 * ρ 1 + 0)) := h; omega) hG
  obtain ⟨k0, -⟩ := H
  exact ⟨_, List.mem_cons_self, ρ, fun _ _ => rfl, (okM_c (pvp 317 (by show 0 + (1 * ρ 1 + 0) = _; omega) (by show 0 + (1 * ρ 1 + 0) = _; omega) k0) okM_n), okB_n, okF_n⟩
-- gb7
theorem cr_913 (M : pM) (s0 s1 s2 : Int) (b0 : 0 ≤ s0 ∧ s0 ≤ 35640) (b1 : 0 ≤ s1 ∧ s1 ≤ 3) (b2 : 0 ≤ s2 ∧ s2 ≤ 9) (m0 : HP 327 (s1) (s0) M) (m1 : HP 342 (s2) (0 : Int) M) (f0 : 0 ≤ (s2 - 7)) (hG : gI M) : (0 ≤ ((-1) * s0 + 27720) ∧ True) := by
  obtain ⟨j1, x1, x2, x3⟩ := Eq.mp hp_327 m0
  obtain ⟨h1, h2, h3⟩ := Eq.mp hp_342 m1
  obtain ⟨a, a1, a2⟩ := x3.2.1
  have k := hps_b (m := hmC M) (t := (hrow 59 7 M)) (a := a) (K := 3960) (by decide) (g := 7) (fun o ho => h3 o (by omega))
  rw [a2] at k
  exact ⟨by omega, trivial⟩
theorem rul_913 : Rul r_913 := by
  refine ⟨fun _ ρ M hm hB hF hG => ?_, fun gi gv hg => (by cases hg)⟩
  have H := cr_913 M (ρ 0) (ρ 1) (ρ 2) (hB _ List.mem_cons_self) (hB _ (List.mem_cons_of_mem _ List.mem_cons_self)) (hB _ (List.mem_cons_of_mem _ (List.mem_cons_of_mem _ List.mem_cons_self))) (cvp 327 (x' := ((ρ 1))) (y' := ((ρ 0))) (by show 0 + (1 * ρ 1 + 0) = _; omega) (by show 0 + (1 * ρ 0 + 0) = _; omega) (hm _ List.mem_cons_self)) (cvp 342 (x' := ((ρ 2))) (y' := (0 : Int)) (by show 0 + (1 * ρ 2 + 0) = _; omega) (by show 0 + 0 = _; omega) (hm _ (List.mem_cons_of_mem _ List.mem_cons_self))) (by have h := hF _ List.mem_cons_self; have h : 0 ≤ (-7) + (1 * ρ 2 + 0) := h; omega) hG
  obtain ⟨f0, -⟩ := H
  exact ⟨_, List.mem_cons_self, ρ, fun _ _ => rfl, okM_n, okB_n, (okF_c (by show 0 ≤ 27720 + ((-1) * ρ 0 + 0); omega) okF_n)⟩
-- gpr8
theorem cr_914 (M : pM) (s0 s1 s2 s3 : Int) (b0 : 1 ≤ s0 ∧ s0 ≤ 3) (b1 : 0 ≤ s1 ∧ s1 ≤ 35640) (b2 : 0 ≤ s2 ∧ s2 ≤ 9) (b3 : 0 ≤ s3 ∧ s3 ≤ 1000000) (m0 : HP 318 (0 : Int) (s0) M) (m1 : HP 328 (0 : Int) (s1) M) (m2 : (0 ≤ (1 : Int) ∧ M 55 (1 : Int).toNat = (s2))) (m3 : (0 ≤ (6 : Int) ∧ M 55 (6 : Int).toNat = (s3))) (f0 : 0 ≤ (s1 + (-1) * s3)) (f1 : 0 ≤ (s2 - 8)) (hG : gI M) : (HP 318 (s0) (s0) M ∧ True) := by
  obtain ⟨j0, T0, t1, t2, t3, t4, t5, t6, t7⟩ := Eq.mp hp_318 m0
  obtain ⟨j1, x1, x2, x3⟩ := Eq.mp hp_328 m1
  have en : hnC M = s2.toNat := hnC_v (by omega) (by have h : M 55 1 = s2 := m2.2; rw [h]; omega)
  have eb : M 55 6 = s3 := m3.2
  have ej : j0 = 0 := by omega
  subst ej
  exact ⟨Eq.mpr hp_318 ⟨T0, T0, t1, t2, Nat.le_refl _, by omega, by omega, t6, hj_pr (hmC_0 hG) (by rw [en]; omega) t7 x3 (by rw [eb]; omega)⟩, trivial⟩
theorem rul_914 : Rul r_914 := by
  refine ⟨fun _ ρ M hm hB hF hG => ?_, fun gi gv hg => (by cases hg)⟩
  have H := cr_914 M (ρ 0) (ρ 1) (ρ 2) (ρ 3) (hB _ List.mem_cons_self) (hB _ (List.mem_cons_of_mem _ List.mem_cons_self)) (hB _ (List.mem_cons_of_mem _ (List.mem_cons_of_mem _ List.mem_cons_self))) (hB _ (List.mem_cons_of_mem _ (List.mem_cons_of_mem _ (List.mem_cons_of_mem _ List.mem_cons_self)))) (cvp 318 (x' := (0 : Int)) (y' := ((ρ 0))) (by show 0 + 0 = _; omega) (by show 0 + (1 * ρ 0 + 0) = _; omega) (hm _ List.mem_cons_self)) (cvp 328 (x' := (0 : Int)) (y' := ((ρ 1))) (by show 0 + 0 = _; omega) (by show 0 + (1 * ρ 1 + 0) = _; omega) (hm _ (List.mem_cons_of_mem _ List.mem_cons_self))) (cvm (c := 55) (by decide) (x' := (1 : Int)) (y' := ((ρ 2))) (by show 1 + 0 = _; omega) (by show 0 + (1 * ρ 2 + 0) = _; omega) (hm _ (List.mem_cons_of_mem _ (List.mem_cons_of_mem _ List.mem_cons_self)))) (cvm (c := 55) (by decide) (x' := (6 : Int)) (y' := ((ρ 3))) (by show 6 + 0 = _; omega) (by show 0 + (1 * ρ 3 + 0) = _; omega) (hm _ (List.mem_cons_of_mem _ (List.mem_cons_of_mem _ (List.mem_cons_of_mem _ List.mem_cons_self))))) (by have h := hF _ List.mem_cons_self; have h : 0 ≤ 0 + (1 * ρ 1 + ((-1) * ρ 3 + 0)) := h; omega) (by have h := hF _ (List.mem_cons_of_mem _ List.mem_cons_self); have h : 0 ≤ (-8) + (1 * ρ 2 + 0) := h; omega) hG
  obtain ⟨k0, -⟩ := H
  exact ⟨_, List.mem_cons_self, ρ, fun _ _ => rfl, (okM_c (pvp 318 (by show 0 + (1 * ρ 0 + 0) = _; omega) (by show 0 + (1 * ρ 0 + 0) = _; omega) k0) okM_n), okB_n, okF_n⟩
-- glf8
theorem cr_915 (M : pM) (s0 s1 s2 s3 : Int) (b0 : 1 ≤ s0 ∧ s0 ≤ 3) (b1 : 0 ≤ s1 ∧ s1 ≤ 35640) (b2 : 0 ≤ s2 ∧ s2 ≤ 9) (b3 : 0 ≤ s3 ∧ s3 ≤ 1000000) (m0 : HP 318 (0 : Int) (s0) M) (m1 : HP 328 (0 : Int) (s1) M) (m2 : (0 ≤ (1 : Int) ∧ M 55 (1 : Int).toNat = (s2))) (m3 : (0 ≤ (6 : Int) ∧ M 55 (6 : Int).toNat = (s3))) (f0 : 0 ≤ ((-1) * s1 + s3 - 1)) (f1 : 0 ≤ ((-1) * s2 + 8)) (f2 : 0 ≤ (s2 - 8)) (hG : gI M) : (HP 340 (s1) (s0) M ∧ True) := by
  obtain ⟨j0, T0, t1, t2, t3, t4, t5, t6, t7⟩ := Eq.mp hp_318 m0
  obtain ⟨j1, x1, x2, x3⟩ := Eq.mp hp_328 m1
  have en : hnC M = s2.toNat := hnC_v (by omega) (by have h : M 55 1 = s2 := m2.2; rw [h]; omega)
  have eb : M 55 6 = s3 := m3.2
  have ej : j0 = 0 := by omega
  subst ej
  have en2 : hnC M = 8 := by rw [en]; omega
  rw [en2] at t7
  obtain ⟨k1, k2⟩ := hj_lf t7 x3 (by rw [eb]; omega)
  exact ⟨Eq.mpr hp_340 ⟨T0, t1, t2, by omega, by rw [en2]; exact fun o ho => by rw [hrow_lt ho (by decide)]; exact t6 o ho, by rw [en2]; exact (hco_c (fun o ho => hrow_lt ho (by decide))).trans k1, by rw [en2]; exact fun t ht hl => k2 t ht (hlx_c hl (fun o ho => hrow_lt ho (by decide)))⟩, trivial⟩
theorem rul_915 : Rul r_915 := by
  refine ⟨fun _ ρ M hm hB hF hG => ?_, fun gi gv hg => (by cases hg)⟩
  have H := cr_915 M (ρ 0) (ρ 1) (ρ 2) (ρ 3) (hB _ List.mem_cons_self) (hB _ (List.mem_cons_of_mem _ List.mem_cons_self)) (hB _ (List.mem_cons_of_mem _ (List.mem_cons_of_mem _ List.mem_cons_self))) (hB _ (List.mem_cons_of_mem _ (List.mem_cons_of_mem _ (List.mem_cons_of_mem _ List.mem_cons_self)))) (cvp 318 (x' := (0 : Int)) (y' := ((ρ 0))) (by show 0 + 0 = _; omega) (by show 0 + (1 * ρ 0 + 0) = _; omega) (hm _ List.mem_cons_self)) (cvp 328 (x' := (0 : Int)) (y' := ((ρ 1))) (by show 0 + 0 = _; omega) (by show 0 + (1 * ρ 1 + 0) = _; omega) (hm _ (List.mem_cons_of_mem _ List.mem_cons_self))) (cvm (c := 55) (by decide) (x' := (1 : Int)) (y' := ((ρ 2))) (by show 1 + 0 = _; omega) (by show 0 + (1 * ρ 2 + 0) = _; omega) (hm _ (List.mem_cons_of_mem _ (List.mem_cons_of_mem _ List.mem_cons_self)))) (cvm (c := 55) (by decide) (x' := (6 : Int)) (y' := ((ρ 3))) (by show 6 + 0 = _; omega) (by show 0 + (1 * ρ 3 + 0) = _; omega) (hm _ (List.mem_cons_of_mem _ (List.mem_cons_of_mem _ (List.mem_cons_of_mem _ List.mem_cons_self))))) (by have h := hF _ List.mem_cons_self; have h : 0 ≤ (-1) + ((-1) * ρ 1 + (1 * ρ 3 + 0)) := h; omega) (by have h := hF _ (List.mem_cons_of_mem _ List.mem_cons_self); have h : 0 ≤ 8 + ((-1) * ρ 2 + 0) := h; omega) (by have h := hF _ (List.mem_cons_of_mem _ (List.mem_cons_of_mem _ List.mem_cons_self)); have h : 0 ≤ (-8) + (1 * ρ 2 + 0) := h; omega) hG
  obtain ⟨k0, -⟩ := H
  exact ⟨_, List.mem_cons_self, ρ, fun _ _ => rfl, (okM_c (pvp 340 (by show 0 + (1 * ρ 1 + 0) = _; omega) (by show 0 + (1 * ρ 0 + 0) = _; omega) k0) okM_n), okB_n, okF_n⟩
-- glx8
theorem cr_916 (M : pM) (s0 s1 s2 s3 : Int) (b0 : 1 ≤ s0 ∧ s0 ≤ 3) (b1 : 0 ≤ s1 ∧ s1 ≤ 35640) (b2 : 0 ≤ s2 ∧ s2 ≤ 9) (b3 : 0 ≤ s3 ∧ s3 ≤ 1000000) (m0 : HP 340 (s1) (s0) M) (m1 : HP 341 (s2) (0 : Int) M) (m2 : (0 ≤ (1 : Int) ∧ M 55 (1 : Int).toNat = (s2))) (m3 : (0 ≤ (6 : Int) ∧ M 55 (6 : Int).toNat = (s3))) (f0 : 0 ≤ ((-1) * s2 + 8)) (f1 : 0 ≤ (s2 - 8)) (f2 : 0 ≤ (s1 + (-1) * s3)) (f3 : 0 ≤ ((-1) * s1 + s3)) (hG : gI M) : (HP 318 (s0) (s0) M ∧ True) := by
  obtain ⟨T0, q1, q2, q3, q4, q5, q6⟩ := Eq.mp hp_340 m0
  have c2 := Eq.mp hp_341 m1
  have en : hnC M = s2.toNat := hnC_v (by omega) (by have h : M 55 1 = s2 := m2.2; rw [h]; omega)
  have eb : M 55 6 = s3 := m3.2
  have en2 : hnC M = 8 := by rw [en]; omega
  rw [en2] at q4 q5 q6
  exact ⟨Eq.mpr hp_318 ⟨T0, T0, q1, q2, Nat.le_refl _, by omega, by omega, fun o ho => by rw [← hrow_lt (k := 9) ho (by decide)]; exact q4 o ho, by
      rw [en2]
      exact hj_le (q := hrow 59 9 M) (fun o ho => hrow_lt ho (by decide)) (fun o ho => hrow_e (by omega) (c2 o (by omega) (by omega))) q4 (q5.trans (by rw [eb]; omega)) (fun t ht hl => by have := q6 t ht hl; rw [eb]; omega)⟩, trivial⟩
theorem rul_916 : Rul r_916 := by
  refine ⟨fun _ ρ M hm hB hF hG => ?_, fun gi gv hg => (by cases hg)⟩
  have H := cr_916 M (ρ 0) (ρ 1) (ρ 2) (ρ 3) (hB _ List.mem_cons_self) (hB _ (List.mem_cons_of_mem _ List.mem_cons_self)) (hB _ (List.mem_cons_of_mem _ (List.mem_cons_of_mem _ List.mem_cons_self))) (hB _ (List.mem_cons_of_mem _ (List.mem_cons_of_mem _ (List.mem_cons_of_mem _ List.mem_cons_self)))) (cvp 340 (x' := ((ρ 1))) (y' := ((ρ 0))) (by show 0 + (1 * ρ 1 + 0) = _; omega) (by show 0 + (1 * ρ 0 + 0) = _; omega) (hm _ List.mem_cons_self)) (cvp 341 (x' := ((ρ 2))) (y' := (0 : Int)) (by show 0 + (1 * ρ 2 + 0) = _; omega) (by show 0 + 0 = _; omega) (hm _ (List.mem_cons_of_mem _ List.mem_cons_self))) (cvm (c := 55) (by decide) (x' := (1 : Int)) (y' := ((ρ 2))) (by show 1 + 0 = _; omega) (by show 0 + (1 * ρ 2 + 0) = _; omega) (hm _ (List.mem_cons_of_mem _ (List.mem_cons_of_mem _ List.mem_cons_self)))) (cvm (c := 55) (by decide) (x' := (6 : Int)) (y' := ((ρ 3))) (by show 6 + 0 = _; omega) (by show 0 + (1 * ρ 3 + 0) = _; omega) (hm _ (List.mem_cons_of_mem _ (List.mem_cons_of_mem _ (List.mem_cons_of_mem _ List.mem_cons_self))))) (by have h := hF _ List.mem_cons_self; have h : 0 ≤ 8 + ((-1) * ρ 2 + 0) := h; omega) (by have h := hF _ (List.mem_cons_of_mem _ List.mem_cons_self); have h : 0 ≤ (-8) + (1 * ρ 2 + 0) := h; omega) (by have h := hF _ (List.mem_cons_of_mem _ (List.mem_cons_of_mem _ List.mem_cons_self)); have h : 0 ≤ 0 + (1 * ρ 1 + ((-1) * ρ 3 + 0)) := h; omega) (by have h := hF _ (List.mem_cons_of_mem _ (List.mem_cons_of_mem _ (List.mem_cons_of_mem _ List.mem_cons_self))); have h : 0 ≤ 0 + ((-1) * ρ 1 + (1 * ρ 3 + 0)) := h; omega) hG
  obtain ⟨k0, -⟩ := H
  exact ⟨_, List.mem_cons_self, ρ, fun _ _ => rfl, (okM_c (pvp 318 (by show 0 + (1 * ρ 0 + 0) = _; omega) (by show 0 + (1 * ρ 0 + 0) = _; omega) k0) okM_n), okB_n, okF_n⟩
-- gh8
theorem cr_917 (M : pM) (s0 s1 s2 : Int) (b0 : 0 ≤ s0 ∧ s0 ≤ 2) (b1 : 1 ≤ s1 ∧ s1 ≤ 3) (b2 : 0 ≤ s2 ∧ s2 ≤ 9) (m0 : HP 318 (s0) (s1) M) (m1 : (0 ≤ (8 : Int) ∧ M 59 (8 : Int).toNat = (s0))) (m2 : (0 ≤ (1 : Int) ∧ M 55 (1 : Int).toNat = (s2))) (f0 : 0 ≤ ((-1) * s0 + s1 - 1)) (f1 : 0 ≤ (s2 - 9)) (hG : gI M) : (HP 319 (0 : Int) (s1) M ∧ True) := by
  obtain ⟨j0, T0, t1, t2, t3, t4, t5, t6, t7⟩ := Eq.mp hp_318 m0
  have hj : hrow 59 9 M 8 = s0.toNat := hrow_v (by decide) (by have h : M 59 8 = s0 := m1.2; rw [h]; omega)
  have hp : ∀ o, o < 8 → hrow 59 9 M o = hrow 59 8 M o := fun o ho => hrow_lt ho (by decide)
  have en : hnC M = s2.toNat := hnC_v (by omega) (by have h : M 55 1 = s2 := m2.2; rw [h]; omega)
  have ej : j0 = s0.toNat := by omega
  subst ej
  exact ⟨Eq.mpr hp_319 ⟨0, T0, t1, t2, by omega, by omega, by omega, fun o ho => by
      by_cases e : o = 8
      · rw [e, hj]; omega
      · rw [hp o (by omega)]; exact t6 o (by omega), hj_dn t1 hp hj (by omega) t7⟩, trivial⟩
theorem rul_917 : Rul r_917 := by
  refine ⟨fun _ ρ M hm hB hF hG => ?_, fun gi gv hg => (by cases hg)⟩
  have H := cr_917 M (ρ 0) (ρ 1) (ρ 2) (hB _ List.mem_cons_self) (hB _ (List.mem_cons_of_mem _ List.mem_cons_self)) (hB _ (List.mem_cons_of_mem _ (List.mem_cons_of_mem _ List.mem_cons_self))) (cvp 318 (x' := ((ρ 0))) (y' := ((ρ 1))) (by show 0 + (1 * ρ 0 + 0) = _; omega) (by show 0 + (1 * ρ 1 + 0) = _; omega) (hm _ List.mem_cons_self)) (cvm (c := 59) (by decide) (x' := (8 : Int)) (y' := ((ρ 0))) (by show 8 + 0 = _; omega) (by show 0 + (1 * ρ 0 + 0) = _; omega) (hm _ (List.mem_cons_of_mem _ List.mem_cons_self))) (cvm (c := 55) (by decide) (x' := (1 : Int)) (y' := ((ρ 2))) (by show 1 + 0 = _; omega) (by show 0 + (1 * ρ 2 + 0) = _; omega) (hm _ (List.mem_cons_of_mem _ (List.mem_cons_of_mem _ List.mem_cons_self)))) (by have h := hF _ List.mem_cons_self; have h : 0 ≤ (-1) + ((-1) * ρ 0 + (1 * ρ 1 + 0)) := h; omega) (by have h := hF _ (List.mem_cons_of_mem _ List.mem_cons_self); have h : 0 ≤ (-9) + (1 * ρ 2 + 0) := h; omega) hG
  obtain ⟨k0, -⟩ := H
  exact ⟨_, List.mem_cons_self, ρ, fun _ _ => rfl, (okM_c (pvp 319 (by show 0 + 0 = _; omega) (by show 0 + (1 * ρ 1 + 0) = _; omega) k0) okM_n), okB_n, okF_n⟩
-- gld8
theorem cr_918 (M : pM) (s0 s1 s2 s3 : Int) (b0 : 0 ≤ s0 ∧ s0 ≤ 2) (b1 : (-2147483648) ≤ s1 ∧ s1 ≤ 2147483647) (b2 : 0 ≤ s2 ∧ s2 ≤ 3) (b3 : 0 ≤ s3 ∧ s3 ≤ 35640) (m0 : HP 338 (0 : Int) (0 : Int) M) (m1 : (0 ≤ (s0) ∧ M 58 (s0).toNat = (s1))) (m2 : HP 328 (s2) (s3) M) (hG : gI M) : (0 ≤ (s1) ∧ 0 ≤ ((-1) * s1 + s3) ∧ True) := by
  obtain ⟨j1, x1, x2, x3⟩ := Eq.mp hp_328 m2
  have k1 := (Eq.mp hp_338 m0) s0.toNat (by omega)
  rw [m1.2] at k1
  have k2 := hps_0 (t := (hrow 59 8 M)) (a := s0.toNat) (hmC_0 hG) 8
  have k3 := x3.1 s0.toNat (by omega)
  exact ⟨by omega, by omega, trivial⟩
theorem rul_918 : Rul r_918 := by
  refine ⟨fun _ ρ M hm hB hF hG => ?_, fun gi gv hg => (by cases hg)⟩
  have H := cr_918 M (ρ 0) (ρ 1) (ρ 2) (ρ 3) (hB _ List.mem_cons_self) (hB _ (List.mem_cons_of_mem _ List.mem_cons_self)) (hB _ (List.mem_cons_of_mem _ (List.mem_cons_of_mem _ List.mem_cons_self))) (hB _ (List.mem_cons_of_mem _ (List.mem_cons_of_mem _ (List.mem_cons_of_mem _ List.mem_cons_self)))) (cvp 338 (x' := (0 : Int)) (y' := (0 : Int)) (by show 0 + 0 = _; omega) (by show 0 + 0 = _; omega) (hm _ List.mem_cons_self)) (cvm (c := 58) (by decide) (x' := ((ρ 0))) (y' := ((ρ 1))) (by show 0 + (1 * ρ 0 + 0) = _; omega) (by show 0 + (1 * ρ 1 + 0) = _; omega) (hm _ (List.mem_cons_of_mem _ List.mem_cons_self))) (cvp 328 (x' := ((ρ 2))) (y' := ((ρ 3))) (by show 0 + (1 * ρ 2 + 0) = _; omega) (by show 0 + (1 * ρ 3 + 0) = _; omega) (hm _ (List.mem_cons_of_mem _ (List.mem_cons_of_mem _ List.mem_cons_self)))) hG
  obtain ⟨f0, f1, -⟩ := H
  exact ⟨_, List.mem_cons_self, ρ, fun _ _ => rfl, okM_n, okB_n, (okF_c (by show 0 ≤ 0 + (1 * ρ 1 + 0); omega) (okF_c (by show 0 ≤ 0 + ((-1) * ρ 1 + (1 * ρ 3 + 0)); omega) okF_n))⟩
-- gl8
theorem cr_919 (M : pM) (s0 s1 s2 s3 : Int) (b0 : 0 ≤ s0 ∧ s0 ≤ 2) (b1 : 0 ≤ s1 ∧ s1 ≤ 63) (b2 : 0 ≤ s2 ∧ s2 ≤ 1980) (b3 : 0 ≤ s3 ∧ s3 ≤ 35640) (m0 : HP 338 (0 : Int) (0 : Int) M) (m1 : (0 ≤ (s0) ∧ M 58 (s0).toNat = (s3))) (m2 : (0 ≤ (8 : Int) ∧ M 59 (8 : Int).toNat = (s0))) (m3 : (0 ≤ (8 : Int) ∧ M 56 (8 : Int).toNat = (s1))) (m4 : (0 ≤ (s1) ∧ M 57 (s1).toNat = (s2))) (hG : gI M) : (HP 339 (0 : Int) (0 : Int) (st M 58 (s0).toNat (2 * s2 + s3)) ∧ True) := by
  have hj : hrow 59 9 M 8 = s0.toNat := hrow_v (by decide) (by have h : M 59 8 = s0 := m2.2; rw [h]; omega)
  have hp : ∀ o, o < 8 → hrow 59 9 M o = hrow 59 8 M o := fun o ho => hrow_lt ho (by decide)
  have hz : 2 * s2 = hmC M 8 := (hmC_v (o := 8) (c := s1.toNat) (by decide) (by omega) (by have h : M 56 8 = s1 := m3.2; rw [h]; omega) m4.2).symm
  have hl := Eq.mp hp_338 m0
  refine ⟨Eq.mpr hp_339 (fun a ha => ?_), trivial⟩
  rw [hmC_st (by decide) (by decide), hrow_st (by decide)]
  exact ld_u (R := fun a => M 58 a) (R' := fun a => st M 58 (s0).toNat (2 * s2 + s3) 58 a) hp hj hl (fun a ha => by
      show st M 58 (s0).toNat (2 * s2 + s3) 58 a = if a = s0.toNat then M 58 s0.toNat + 2 * s2 else M 58 a
      rw [hst_v]
      by_cases e : a = s0.toNat
      · rw [if_pos e, if_pos e, m1.2]; omega
      · rw [if_neg e, if_neg e]) hz (by omega) a ha
theorem rul_919 : Rul r_919 := by
  refine ⟨fun h => (by cases h), fun gi gv hg ρ M hm hB hF hG => ?_⟩
  obtain ⟨g1, g2⟩ := List.cons.inj (show ([aI ((0 : Int), ([(0, 1)] : List (Nat × Int))), aI ((0 : Int), ([(2, 2), (3, 1)] : List (Nat × Int)))] : List av) = [.inl gi, .inl gv] from hg)
  obtain ⟨g2, -⟩ := List.cons.inj g2
  cases g1
  cases g2
  have ei : ev ρ ((0 : Int), ([(0, 1)] : List (Nat × Int))) = ((ρ 0)) := by show 0 + (1 * ρ 0 + 0) = _; omega
  have ew : ev ρ ((0 : Int), ([(2, 2), (3, 1)] : List (Nat × Int))) = (2 * (ρ 2) + (ρ 3)) := by show 0 + (2 * ρ 2 + (1 * ρ 3 + 0)) = _; omega
  rw [show (st M (ctj r_919) (ev ρ ((0 : Int), ([(0, 1)] : List (Nat × Int)))).toNat (ev ρ ((0 : Int), ([(2, 2), (3, 1)] : List (Nat × Int))))) = (st M 58 ((ρ 0)).toNat (2 * (ρ 2) + (ρ 3))) from by rw [ei, ew]; rfl]
  have H := cr_919 M (ρ 0) (ρ 1) (ρ 2) (ρ 3) (hB _ List.mem_cons_self) (hB _ (List.mem_cons_of_mem _ List.mem_cons_self)) (hB _ (List.mem_cons_of_mem _ (List.mem_cons_of_mem _ List.mem_cons_self))) (hB _ (List.mem_cons_of_mem _ (List.mem_cons_of_mem _ (List.mem_cons_of_mem _ List.mem_cons_self)))) (cvp 338 (x' := (0 : Int)) (y' := (0 : Int)) (by show 0 + 0 = _; omega) (by show 0 + 0 = _; omega) (hm _ List.mem_cons_self)) (cvm (c := 58) (by decide) (x' := ((ρ 0))) (y' := ((ρ 3))) (by show 0 + (1 * ρ 0 + 0) = _; omega) (by show 0 + (1 * ρ 3 + 0) = _; omega) (hm _ (List.mem_cons_of_mem _ List.mem_cons_self))) (cvm (c := 59) (by decide) (x' := (8 : Int)) (y' := ((ρ 0))) (by show 8 + 0 = _; omega) (by show 0 + (1 * ρ 0 + 0) = _; omega) (hm _ (List.mem_cons_of_mem _ (List.mem_cons_of_mem _ List.mem_cons_self)))) (cvm (c := 56) (by decide) (x' := (8 : Int)) (y' := ((ρ 1))) (by show 8 + 0 = _; omega) (by show 0 + (1 * ρ 1 + 0) = _; omega) (hm _ (List.mem_cons_of_mem _ (List.mem_cons_of_mem _ (List.mem_cons_of_mem _ List.mem_cons_self))))) (cvm (c := 57) (by decide) (x' := ((ρ 1))) (y' := ((ρ 2))) (by show 0 + (1 * ρ 1 + 0) = _; omega) (by show 0 + (1 * ρ 2 + 0) = _; omega) (hm _ (List.mem_cons_of_mem _ (List.mem_cons_of_mem _ (List.mem_cons_of_mem _ (List.mem_cons_of_mem _ List.mem_cons_self)))))) hG
  obtain ⟨k0, -⟩ := H
  exact ⟨_, List.mem_cons_self, ρ, fun _ _ => rfl, (okM_c (pvp 339 (by show 0 + 0 = _; omega) (by show 0 + 0 = _; omega) k0) okM_n), okB_n, okF_n⟩
-- gm0_8
theorem cr_920 (M : pM) (s0 s1 s2 : Int) (b0 : 0 ≤ s0 ∧ s0 ≤ 2) (b1 : 0 ≤ s1 ∧ s1 ≤ 35640) (b2 : (-2147483648) ≤ s2 ∧ s2 ≤ 2147483647) (m0 : HP 328 (s0) (s1) M) (m1 : (0 ≤ (8 : Int) ∧ M 59 (8 : Int).toNat = (s0))) (m2 : HP 339 (0 : Int) (0 : Int) M) (m3 : (0 ≤ (s0) ∧ M 58 (s0).toNat = (s2))) (f0 : 0 ≤ (s1 + (-1) * s2)) (hG : gI M) : (HP 329 (0 : Int) (s1) M ∧ True) := by
  obtain ⟨j1, x1, x2, x3⟩ := Eq.mp hp_328 m0
  have hj : hrow 59 9 M 8 = s0.toNat := hrow_v (by decide) (by have h : M 59 8 = s0 := m1.2; rw [h]; omega)
  have hp : ∀ o, o < 8 → hrow 59 9 M o = hrow 59 8 M o := fun o ho => hrow_lt ho (by decide)
  have ej : j1 = s0.toNat := by omega
  subst ej
  have k1 := (Eq.mp hp_339 m2) s0.toNat (by omega)
  rw [m3.2] at k1
  have z := mx_u (hmC_0 hG) hp hj (by omega) x3 k1.symm
  rw [show max s1 s2 = s1 by omega] at z
  exact ⟨Eq.mpr hp_329 ⟨0, by omega, by omega, z⟩, trivial⟩
theorem rul_920 : Rul r_920 := by
  refine ⟨fun _ ρ M hm hB hF hG => ?_, fun gi gv hg => (by cases hg)⟩
  have H := cr_920 M (ρ 0) (ρ 1) (ρ 2) (hB _ List.mem_cons_self) (hB _ (List.mem_cons_of_mem _ List.mem_cons_self)) (hB _ (List.mem_cons_of_mem _ (List.mem_cons_of_mem _ List.mem_cons_self))) (cvp 328 (x' := ((ρ 0))) (y' := ((ρ 1))) (by show 0 + (1 * ρ 0 + 0) = _; omega) (by show 0 + (1 * ρ 1 + 0) = _; omega) (hm _ List.mem_cons_self)) (cvm (c := 59) (by decide) (x' := (8 : Int)) (y' := ((ρ 0))) (by show 8 + 0 = _; omega) (by show 0 + (1 * ρ 0 + 0) = _; omega) (hm _ (List.mem_cons_of_mem _ List.mem_cons_self))) (cvp 339 (x' := (0 : Int)) (y' := (0 : Int)) (by show 0 + 0 = _; omega) (by show 0 + 0 = _; omega) (hm _ (List.mem_cons_of_mem _ (List.mem_cons_of_mem _ List.mem_cons_self)))) (cvm (c := 58) (by decide) (x' := ((ρ 0))) (y' := ((ρ 2))) (by show 0 + (1 * ρ 0 + 0) = _; omega) (by show 0 + (1 * ρ 2 + 0) = _; omega) (hm _ (List.mem_cons_of_mem _ (List.mem_cons_of_mem _ (List.mem_cons_of_mem _ List.mem_cons_self))))) (by have h := hF _ List.mem_cons_self; have h : 0 ≤ 0 + (1 * ρ 1 + ((-1) * ρ 2 + 0)) := h; omega) hG
  obtain ⟨k0, -⟩ := H
  exact ⟨_, List.mem_cons_self, ρ, fun _ _ => rfl, (okM_c (pvp 329 (by show 0 + 0 = _; omega) (by show 0 + (1 * ρ 1 + 0) = _; omega) k0) okM_n), okB_n, okF_n⟩
-- gm1_8
theorem cr_921 (M : pM) (s0 s1 s2 : Int) (b0 : 0 ≤ s0 ∧ s0 ≤ 2) (b1 : 0 ≤ s1 ∧ s1 ≤ 35640) (b2 : (-2147483648) ≤ s2 ∧ s2 ≤ 2147483647) (m0 : HP 328 (s0) (s1) M) (m1 : (0 ≤ (8 : Int) ∧ M 59 (8 : Int).toNat = (s0))) (m2 : HP 339 (0 : Int) (0 : Int) M) (m3 : (0 ≤ (s0) ∧ M 58 (s0).toNat = (s2))) (f0 : 0 ≤ ((-1) * s1 + s2 - 1)) (hG : gI M) : (HP 329 (0 : Int) (s2) M ∧ True) := by
  obtain ⟨j1, x1, x2, x3⟩ := Eq.mp hp_328 m0
  have hj : hrow 59 9 M 8 = s0.toNat := hrow_v (by decide) (by have h : M 59 8 = s0 := m1.2; rw [h]; omega)
  have hp : ∀ o, o < 8 → hrow 59 9 M o = hrow 59 8 M o := fun o ho => hrow_lt ho (by decide)
  have ej : j1 = s0.toNat := by omega
  subst ej
  have k1 := (Eq.mp hp_339 m2) s0.toNat (by omega)
  rw [m3.2] at k1
  have z := mx_u (hmC_0 hG) hp hj (by omega) x3 k1.symm
  rw [show max s1 s2 = s2 by omega] at z
  exact ⟨Eq.mpr hp_329 ⟨0, by omega, by omega, z⟩, trivial⟩
theorem rul_921 : Rul r_921 := by
  refine ⟨fun _ ρ M hm hB hF hG => ?_, fun gi gv hg => (by cases hg)⟩
  have H := cr_921 M (ρ 0) (ρ 1) (ρ 2) (hB _ List.mem_cons_self) (hB _ (List.mem_cons_of_mem _ List.mem_cons_self)) (hB _ (List.mem_cons_of_mem _ (List.mem_cons_of_mem _ List.mem_cons_self))) (cvp 328 (x' := ((ρ 0))) (y' := ((ρ 1))) (by show 0 + (1 * ρ 0 + 0) = _; omega) (by show 0 + (1 * ρ 1 + 0) = _; omega) (hm _ List.mem_cons_self)) (cvm (c := 59) (by decide) (x' := (8 : Int)) (y' := ((ρ 0))) (by show 8 + 0 = _; omega) (by show 0 + (1 * ρ 0 + 0) = _; omega) (hm _ (List.mem_cons_of_mem _ List.mem_cons_self))) (cvp 339 (x' := (0 : Int)) (y' := (0 : Int)) (by show 0 + 0 = _; omega) (by show 0 + 0 = _; omega) (hm _ (List.mem_cons_of_mem _ (List.mem_cons_of_mem _ List.mem_cons_self)))) (cvm (c := 58) (by decide) (x' := ((ρ 0))) (y' := ((ρ 2))) (by show 0 + (1 * ρ 0 + 0) = _; omega) (by show 0 + (1 * ρ 2 + 0) = _; omega) (hm _ (List.mem_cons_of_mem _ (List.mem_cons_of_mem _ (List.mem_cons_of_mem _ List.mem_cons_self))))) (by have h := hF _ List.mem_cons_self; have h : 0 ≤ (-1) + ((-1) * ρ 1 + (1 * ρ 2 + 0)) := h; omega) hG
  obtain ⟨k0, -⟩ := H
  exact ⟨_, List.mem_cons_self, ρ, fun _ _ => rfl, (okM_c (pvp 329 (by show 0 + 0 = _; omega) (by show 0 + (1 * ρ 2 + 0) = _; omega) k0) okM_n), okB_n, okF_n⟩
-- gs8
theorem cr_922 (M : pM) (s0 s1 s2 s3 : Int) (b0 : 0 ≤ s0 ∧ s0 ≤ 2) (b1 : 0 ≤ s1 ∧ s1 ≤ 63) (b2 : 0 ≤ s2 ∧ s2 ≤ 1980) (b3 : (-2147483648) ≤ s3 ∧ s3 ≤ 2147483647) (m0 : HP 339 (0 : Int) (0 : Int) M) (m1 : (0 ≤ (s0) ∧ M 58 (s0).toNat = (s3))) (m2 : (0 ≤ (8 : Int) ∧ M 59 (8 : Int).toNat = (s0))) (m3 : (0 ≤ (8 : Int) ∧ M 56 (8 : Int).toNat = (s1))) (m4 : (0 ≤ (s1) ∧ M 57 (s1).toNat = (s2))) (hG : gI M) : (HP 338 (0 : Int) (0 : Int) (st M 58 (s0).toNat ((-2) * s2 + s3)) ∧ True) := by
  have hj : hrow 59 9 M 8 = s0.toNat := hrow_v (by decide) (by have h : M 59 8 = s0 := m2.2; rw [h]; omega)
  have hp : ∀ o, o < 8 → hrow 59 9 M o = hrow 59 8 M o := fun o ho => hrow_lt ho (by decide)
  have hz : 2 * s2 = hmC M 8 := (hmC_v (o := 8) (c := s1.toNat) (by decide) (by omega) (by have h : M 56 8 = s1 := m3.2; rw [h]; omega) m4.2).symm
  have hl := Eq.mp hp_339 m0
  refine ⟨Eq.mpr hp_338 (fun a ha => ?_), trivial⟩
  rw [hmC_st (by decide) (by decide), hrow_st (by decide)]
  exact ld_d (R := fun a => M 58 a) (R' := fun a => st M 58 (s0).toNat ((-2) * s2 + s3) 58 a) hp hj hl (fun a ha => by
      show st M 58 (s0).toNat ((-2) * s2 + s3) 58 a = if a = s0.toNat then M 58 s0.toNat - 2 * s2 else M 58 a
      rw [hst_v]
      by_cases e : a = s0.toNat
      · rw [if_pos e, if_pos e, m1.2]; omega
      · rw [if_neg e, if_neg e]) hz (by omega) a ha
theorem rul_922 : Rul r_922 := by
  refine ⟨fun h => (by cases h), fun gi gv hg ρ M hm hB hF hG => ?_⟩
  obtain ⟨g1, g2⟩ := List.cons.inj (show ([aI ((0 : Int), ([(0, 1)] : List (Nat × Int))), aI ((0 : Int), ([(2, (-2)), (3, 1)] : List (Nat × Int)))] : List av) = [.inl gi, .inl gv] from hg)
  obtain ⟨g2, -⟩ := List.cons.inj g2
  cases g1
  cases g2
  have ei : ev ρ ((0 : Int), ([(0, 1)] : List (Nat × Int))) = ((ρ 0)) := by show 0 + (1 * ρ 0 + 0) = _; omega
  have ew : ev ρ ((0 : Int), ([(2, (-2)), (3, 1)] : List (Nat × Int))) = ((-2) * (ρ 2) + (ρ 3)) := by show 0 + ((-2) * ρ 2 + (1 * ρ 3 + 0)) = _; omega
  rw [show (st M (ctj r_922) (ev ρ ((0 : Int), ([(0, 1)] : List (Nat × Int)))).toNat (ev ρ ((0 : Int), ([(2, (-2)), (3, 1)] : List (Nat × Int))))) = (st M 58 ((ρ 0)).toNat ((-2) * (ρ 2) + (ρ 3))) from by rw [ei, ew]; rfl]
  have H := cr_922 M (ρ 0) (ρ 1) (ρ 2) (ρ 3) (hB _ List.mem_cons_self) (hB _ (List.mem_cons_of_mem _ List.mem_cons_self)) (hB _ (List.mem_cons_of_mem _ (List.mem_cons_of_mem _ List.mem_cons_self))) (hB _ (List.mem_cons_of_mem _ (List.mem_cons_of_mem _ (List.mem_cons_of_mem _ List.mem_cons_self)))) (cvp 339 (x' := (0 : Int)) (y' := (0 : Int)) (by show 0 + 0 = _; omega) (by show 0 + 0 = _; omega) (hm _ List.mem_cons_self)) (cvm (c := 58) (by decide) (x' := ((ρ 0))) (y' := ((ρ 3))) (by show 0 + (1 * ρ 0 + 0) = _; omega) (by show 0 + (1 * ρ 3 + 0) = _; omega) (hm _ (List.mem_cons_of_mem _ List.mem_cons_self))) (cvm (c := 59) (by decide) (x' := (8 : Int)) (y' := ((ρ 0))) (by show 8 + 0 = _; omega) (by show 0 + (1 * ρ 0 + 0) = _; omega) (hm _ (List.mem_cons_of_mem _ (List.mem_cons_of_mem _ List.mem_cons_self)))) (cvm (c := 56) (by decide) (x' := (8 : Int)) (y' := ((ρ 1))) (by show 8 + 0 = _; omega) (by show 0 + (1 * ρ 1 + 0) = _; omega) (hm _ (List.mem_cons_of_mem _ (List.mem_cons_of_mem _ (List.mem_cons_of_mem _ List.mem_cons_self))))) (cvm (c := 57) (by decide) (x' := ((ρ 1))) (y' := ((ρ 2))) (by show 0 + (1 * ρ 1 + 0) = _; omega) (by show 0 + (1 * ρ 2 + 0) = _; omega) (hm _ (List.mem_cons_of_mem _ (List.mem_cons_of_mem _ (List.mem_cons_of_mem _ (List.mem_cons_of_mem _ List.mem_cons_self)))))) hG
  obtain ⟨k0, -⟩ := H
  exact ⟨_, List.mem_cons_self, ρ, fun _ _ => rfl, (okM_c (pvp 338 (by show 0 + 0 = _; omega) (by show 0 + 0 = _; omega) k0) okM_n), okB_n, okF_n⟩
-- gsb8
theorem cr_923 (M : pM) (s0 s1 s2 s3 : Int) (b0 : 0 ≤ s0 ∧ s0 ≤ 2) (b1 : 0 ≤ s1 ∧ s1 ≤ 63) (b2 : 0 ≤ s2 ∧ s2 ≤ 1980) (b3 : (-2147483648) ≤ s3 ∧ s3 ≤ 2147483647) (m0 : HP 339 (0 : Int) (0 : Int) M) (m1 : (0 ≤ (s0) ∧ M 58 (s0).toNat = (s3))) (m2 : (0 ≤ (8 : Int) ∧ M 59 (8 : Int).toNat = (s0))) (m3 : (0 ≤ (8 : Int) ∧ M 56 (8 : Int).toNat = (s1))) (m4 : (0 ≤ (s1) ∧ M 57 (s1).toNat = (s2))) (hG : gI M) : (0 ≤ ((-2) * s2 + s3) ∧ True) := by
  have hj : hrow 59 9 M 8 = s0.toNat := hrow_v (by decide) (by have h : M 59 8 = s0 := m2.2; rw [h]; omega)
  have hp : ∀ o, o < 8 → hrow 59 9 M o = hrow 59 8 M o := fun o ho => hrow_lt ho (by decide)
  have hz : 2 * s2 = hmC M 8 := (hmC_v (o := 8) (c := s1.toNat) (by decide) (by omega) (by have h : M 56 8 = s1 := m3.2; rw [h]; omega) m4.2).symm
  have k1 := (Eq.mp hp_339 m0) s0.toNat (by omega)
  rw [m1.2] at k1
  have k2 : hps (hmC M) (hrow 59 9 M) s0.toNat 9 = hps (hmC M) (hrow 59 9 M) s0.toNat 8 + (if hrow 59 9 M 8 = s0.toNat then hmC M 8 else 0) := rfl
  rw [hj, if_pos rfl] at k2
  have k3 := hps_0 (t := hrow 59 9 M) (a := s0.toNat) (hmC_0 hG) 8
  exact ⟨by omega, trivial⟩
theorem rul_923 : Rul r_923 := by
  refine ⟨fun _ ρ M hm hB hF hG => ?_, fun gi gv hg => (by cases hg)⟩
  have H := cr_923 M (ρ 0) (ρ 1) (ρ 2) (ρ 3) (hB _ List.mem_cons_self) (hB _ (List.mem_cons_of_mem _ List.mem_cons_self)) (hB _ (List.mem_cons_of_mem _ (List.mem_cons_of_mem _ List.mem_cons_self))) (hB _ (List.mem_cons_of_mem _ (List.mem_cons_of_mem _ (List.mem_cons_of_mem _ List.mem_cons_self)))) (cvp 339 (x' := (0 : Int)) (y' := (0 : Int)) (by show 0 + 0 = _; omega) (by show 0 + 0 = _; omega) (hm _ List.mem_cons_self)) (cvm (c := 58) (by decide) (x' := ((ρ 0))) (y' := ((ρ 3))) (by show 0 + (1 * ρ 0 + 0) = _; omega) (by show 0 + (1 * ρ 3 + 0) = _; omega) (hm _ (List.mem_cons_of_mem _ List.mem_cons_self))) (cvm (c := 59) (by decide) (x' := (8 : Int)) (y' := ((ρ 0))) (by show 8 + 0 = _; omega) (by show 0 + (1 * ρ 0 + 0) = _; omega) (hm _ (List.mem_cons_of_mem _ (List.mem_cons_of_mem _ List.mem_cons_self)))) (cvm (c := 56) (by decide) (x' := (8 : Int)) (y' := ((ρ 1))) (by show 8 + 0 = _; omega) (by show 0 + (1 * ρ 1 + 0) = _; omega) (hm _ (List.mem_cons_of_mem _ (List.mem_cons_of_mem _ (List.mem_cons_of_mem _ List.mem_cons_self))))) (cvm (c := 57) (by decide) (x' := ((ρ 1))) (y' := ((ρ 2))) (by show 0 + (1 * ρ 1 + 0) = _; omega) (by show 0 + (1 * ρ 2 + 0) = _; omega) (hm _ (List.mem_cons_of_mem _ (List.mem_cons_of_mem _ (List.mem_cons_of_mem _ (List.mem_cons_of_mem _ List.mem_cons_self)))))) hG
  obtain ⟨f0, -⟩ := H
  exact ⟨_, List.mem_cons_self, ρ, fun _ _ => rfl, okM_n, okB_n, (okF_c (by show 0 ≤ 0 + ((-2) * ρ 2 + (1 * ρ 3 + 0)); omega) okF_n)⟩
-- gn8
theorem cr_924 (M : pM) (s0 s1 s2 : Int) (b0 : 0 ≤ s0 ∧ s0 ≤ 2) (b1 : 1 ≤ s1 ∧ s1 ≤ 3) (b2 : 0 ≤ s2 ∧ s2 ≤ 9) (m0 : HP 319 (s1) (s1) M) (m1 : (0 ≤ (8 : Int) ∧ M 59 (8 : Int).toNat = (s0))) (m2 : (0 ≤ (1 : Int) ∧ M 55 (1 : Int).toNat = (s2))) (f0 : 0 ≤ ((-1) * s0 + s1 - 1)) (f1 : 0 ≤ (s2 - 9)) (hG : gI M) : (HP 318 (s0 + 1) (s1) M ∧ True) := by
  obtain ⟨j0, T0, t1, t2, t3, t4, t5, t6, t7⟩ := Eq.mp hp_319 m0
  have hj : hrow 59 9 M 8 = s0.toNat := hrow_v (by decide) (by have h : M 59 8 = s0 := m1.2; rw [h]; omega)
  have hp : ∀ o, o < 8 → hrow 59 9 M o = hrow 59 8 M o := fun o ho => hrow_lt ho (by decide)
  have en : hnC M = s2.toNat := hnC_v (by omega) (by have h : M 55 1 = s2 := m2.2; rw [h]; omega)
  have ej : j0 = T0 := by omega
  subst ej
  exact ⟨Eq.mpr hp_318 ⟨s0.toNat + 1, j0, t1, t2, by omega, by omega, by omega, fun o ho => by rw [← hp o ho]; exact t6 o (by omega), hj_up hp hj (by omega) (by rw [en]; omega) t7⟩, trivial⟩
theorem rul_924 : Rul r_924 := by
  refine ⟨fun _ ρ M hm hB hF hG => ?_, fun gi gv hg => (by cases hg)⟩
  have H := cr_924 M (ρ 0) (ρ 1) (ρ 2) (hB _ List.mem_cons_self) (hB _ (List.mem_cons_of_mem _ List.mem_cons_self)) (hB _ (List.mem_cons_of_mem _ (List.mem_cons_of_mem _ List.mem_cons_self))) (cvp 319 (x' := ((ρ 1))) (y' := ((ρ 1))) (by show 0 + (1 * ρ 1 + 0) = _; omega) (by show 0 + (1 * ρ 1 + 0) = _; omega) (hm _ List.mem_cons_self)) (cvm (c := 59) (by decide) (x' := (8 : Int)) (y' := ((ρ 0))) (by show 8 + 0 = _; omega) (by show 0 + (1 * ρ 0 + 0) = _; omega) (hm _ (List.mem_cons_of_mem _ List.mem_cons_self))) (cvm (c := 55) (by decide) (x' := (1 : Int)) (y' := ((ρ 2))) (by show 1 + 0 = _; omega) (by show 0 + (1 * ρ 2 + 0) = _; omega) (hm _ (List.mem_cons_of_mem _ (List.mem_cons_of_mem _ List.mem_cons_self)))) (by have h := hF _ List.mem_cons_self; have h : 0 ≤ (-1) + ((-1) * ρ 0 + (1 * ρ 1 + 0)) := h; omega) (by have h := hF _ (List.mem_cons_of_mem _ List.mem_cons_self); have h : 0 ≤ (-9) + (1 * ρ 2 + 0) := h; omega) hG
  obtain ⟨k0, -⟩ := H
  exact ⟨_, List.mem_cons_self, ρ, fun _ _ => rfl, (okM_c (pvp 318 (by show 1 + (1 * ρ 0 + 0) = _; omega) (by show 0 + (1 * ρ 1 + 0) = _; omega) k0) okM_n), okB_n, okF_n⟩
-- ge8
theorem cr_925 (M : pM) (s0 s1 s2 s3 s4 : Int) (b0 : 0 ≤ s0 ∧ s0 ≤ 2) (b1 : 1 ≤ s1 ∧ s1 ≤ 3) (b2 : 0 ≤ s2 ∧ s2 ≤ 35640) (b3 : 0 ≤ s3 ∧ s3 ≤ 0) (b4 : 0 ≤ s4 ∧ s4 ≤ 9) (m0 : HP 318 (s0 + 1) (s1) M) (m1 : HP 338 (0 : Int) (0 : Int) M) (m2 : (0 ≤ (s0) ∧ M 58 (s0).toNat = (s3))) (m3 : HP 328 (s0) (s2) M) (m4 : (0 ≤ (1 : Int) ∧ M 55 (1 : Int).toNat = (s4))) (f0 : 0 ≤ (s4 - 9)) (f1 : 0 ≤ ((-1) * s0 + s1 - 1)) (hG : gI M) : (HP 318 (s1) (s1) M ∧ True) := by
  obtain ⟨j0, T0, t1, t2, t3, t4, t5, t6, t7⟩ := Eq.mp hp_318 m0
  obtain ⟨j1, x1, x2, x3⟩ := Eq.mp hp_328 m3
  have en : hnC M = s4.toNat := hnC_v (by omega) (by have h : M 55 1 = s4 := m4.2; rw [h]; omega)
  have ej : j1 = s0.toNat := by omega
  subst ej
  have ek : j0 = s0.toNat + 1 := by omega
  subst ek
  have k1 := (Eq.mp hp_338 m1) s0.toNat (by omega)
  rw [m2.2] at k1
  exact ⟨Eq.mpr hp_318 ⟨T0, T0, t1, t2, Nat.le_refl _, by omega, by omega, t6, hj_sw (by rw [en]; omega) (by omega) t2 t7 x3 (by omega)⟩, trivial⟩
theorem rul_925 : Rul r_925 := by
  refine ⟨fun _ ρ M hm hB hF hG => ?_, fun gi gv hg => (by cases hg)⟩
  have H := cr_925 M (ρ 0) (ρ 1) (ρ 2) (ρ 3) (ρ 4) (hB _ List.mem_cons_self) (hB _ (List.mem_cons_of_mem _ List.mem_cons_self)) (hB _ (List.mem_cons_of_mem _ (List.mem_cons_of_mem _ List.mem_cons_self))) (hB _ (List.mem_cons_of_mem _ (List.mem_cons_of_mem _ (List.mem_cons_of_mem _ List.mem_cons_self)))) (hB _ (List.mem_cons_of_mem _ (List.mem_cons_of_mem _ (List.mem_cons_of_mem _ (List.mem_cons_of_mem _ List.mem_cons_self))))) (cvp 318 (x' := ((ρ 0) + 1)) (y' := ((ρ 1))) (by show 1 + (1 * ρ 0 + 0) = _; omega) (by show 0 + (1 * ρ 1 + 0) = _; omega) (hm _ List.mem_cons_self)) (cvp 338 (x' := (0 : Int)) (y' := (0 : Int)) (by show 0 + 0 = _; omega) (by show 0 + 0 = _; omega) (hm _ (List.mem_cons_of_mem _ List.mem_cons_self))) (cvm (c := 58) (by decide) (x' := ((ρ 0))) (y' := ((ρ 3))) (by show 0 + (1 * ρ 0 + 0) = _; omega) (by show 0 + (1 * ρ 3 + 0) = _; omega) (hm _ (List.mem_cons_of_mem _ (List.mem_cons_of_mem _ List.mem_cons_self)))) (cvp 328 (x' := ((ρ 0))) (y' := ((ρ 2))) (by show 0 + (1 * ρ 0 + 0) = _; omega) (by show 0 + (1 * ρ 2 + 0) = _; omega) (hm _ (List.mem_cons_of_mem _ (List.mem_cons_of_mem _ (List.mem_cons_of_mem _ List.mem_cons_self))))) (cvm (c := 55) (by decide) (x' := (1 : Int)) (y' := ((ρ 4))) (by show 1 + 0 = _; omega) (by show 0 + (1 * ρ 4 + 0) = _; omega) (hm _ (List.mem_cons_of_mem _ (List.mem_cons_of_mem _ (List.mem_cons_of_mem _ (List.mem_cons_of_mem _ List.mem_cons_self)))))) (by have h := hF _ List.mem_cons_self; have h : 0 ≤ (-9) + (1 * ρ 4 + 0) := h; omega) (by have h := hF _ (List.mem_cons_of_mem _ List.mem_cons_self); have h : 0 ≤ (-1) + ((-1) * ρ 0 + (1 * ρ 1 + 0)) := h; omega) hG
  obtain ⟨k0, -⟩ := H
  exact ⟨_, List.mem_cons_self, ρ, fun _ _ => rfl, (okM_c (pvp 318 (by show 0 + (1 * ρ 1 + 0) = _; omega) (by show 0 + (1 * ρ 1 + 0) = _; omega) k0) okM_n), okB_n, okF_n⟩
-- gz8
theorem cr_926 (M : pM) (s0 s1 s2 : Int) (b0 : 0 ≤ s0 ∧ s0 ≤ 2) (b1 : 0 ≤ s1 ∧ s1 ≤ 35640) (b2 : (-2147483648) ≤ s2 ∧ s2 ≤ 2147483647) (m0 : HP 328 (s0) (s1) M) (m1 : HP 338 (0 : Int) (0 : Int) M) (m2 : (0 ≤ (s0) ∧ M 58 (s0).toNat = (s2))) (f0 : 0 ≤ (s2 - 1)) (hG : gI M) : (HP 328 (s0 + 1) (s1) M ∧ True) := by
  obtain ⟨j1, x1, x2, x3⟩ := Eq.mp hp_328 m0
  have ej : j1 = s0.toNat := by omega
  subst ej
  have k1 := (Eq.mp hp_338 m1) s0.toNat (by omega)
  rw [m2.2] at k1
  exact ⟨Eq.mpr hp_328 ⟨s0.toNat + 1, by omega, by omega, mx_z x3 (by omega)⟩, trivial⟩
theorem rul_926 : Rul r_926 := by
  refine ⟨fun _ ρ M hm hB hF hG => ?_, fun gi gv hg => (by cases hg)⟩
  have H := cr_926 M (ρ 0) (ρ 1) (ρ 2) (hB _ List.mem_cons_self) (hB _ (List.mem_cons_of_mem _ List.mem_cons_self)) (hB _ (List.mem_cons_of_mem _ (List.mem_cons_of_mem _ List.mem_cons_self))) (cvp 328 (x' := ((ρ 0))) (y' := ((ρ 1))) (by show 0 + (1 * ρ 0 + 0) = _; omega) (by show 0 + (1 * ρ 1 + 0) = _; omega) (hm _ List.mem_cons_self)) (cvp 338 (x' := (0 : Int)) (y' := (0 : Int)) (by show 0 + 0 = _; omega) (by show 0 + 0 = _; omega) (hm _ (List.mem_cons_of_mem _ List.mem_cons_self))) (cvm (c := 58) (by decide) (x' := ((ρ 0))) (y' := ((ρ 2))) (by show 0 + (1 * ρ 0 + 0) = _; omega) (by show 0 + (1 * ρ 2 + 0) = _; omega) (hm _ (List.mem_cons_of_mem _ (List.mem_cons_of_mem _ List.mem_cons_self)))) (by have h := hF _ List.mem_cons_self; have h : 0 ≤ (-1) + (1 * ρ 2 + 0) := h; omega) hG
  obtain ⟨k0, -⟩ := H
  exact ⟨_, List.mem_cons_self, ρ, fun _ _ => rfl, (okM_c (pvp 328 (by show 1 + (1 * ρ 0 + 0) = _; omega) (by show 0 + (1 * ρ 1 + 0) = _; omega) k0) okM_n), okB_n, okF_n⟩
-- gf8
theorem cr_927 (M : pM) (s0 s1 : Int) (b0 : 0 ≤ s0 ∧ s0 ≤ 3) (b1 : 1 ≤ s1 ∧ s1 ≤ 3) (m0 : HP 318 (s0) (s1) M) (f0 : 0 ≤ (s0 + (-1) * s1)) (f1 : 0 ≤ ((-1) * s0 + s1)) (hG : gI M) : (HP 318 (s1) (s1) M ∧ True) := by
  obtain ⟨j0, T0, t1, t2, t3, t4, t5, t6, t7⟩ := Eq.mp hp_318 m0
  have ej : j0 = T0 := by omega
  subst ej
  exact ⟨Eq.mpr hp_318 ⟨j0, j0, t1, t2, Nat.le_refl _, by omega, by omega, t6, t7⟩, trivial⟩
theorem rul_927 : Rul r_927 := by
  refine ⟨fun _ ρ M hm hB hF hG => ?_, fun gi gv hg => (by cases hg)⟩
  have H := cr_927 M (ρ 0) (ρ 1) (hB _ List.mem_cons_self) (hB _ (List.mem_cons_of_mem _ List.mem_cons_self)) (cvp 318 (x' := ((ρ 0))) (y' := ((ρ 1))) (by show 0 + (1 * ρ 0 + 0) = _; omega) (by show 0 + (1 * ρ 1 + 0) = _; omega) (hm _ List.mem_cons_self)) (by have h := hF _ List.mem_cons_self; have h : 0 ≤ 0 + (1 * ρ 0 + ((-1) * ρ 1 + 0)) := h; omega) (by have h := hF _ (List.mem_cons_of_mem _ List.mem_cons_self); have h : 0 ≤ 0 + ((-1) * ρ 0 + (1 * ρ 1 + 0)) := h; omega) hG
  obtain ⟨k0, -⟩ := H
  exact ⟨_, List.mem_cons_self, ρ, fun _ _ => rfl, (okM_c (pvp 318 (by show 0 + (1 * ρ 1 + 0) = _; omega) (by show 0 + (1 * ρ 1 + 0) = _; omega) k0) okM_n), okB_n, okF_n⟩
-- gb8
theorem cr_928 (M : pM) (s0 s1 s2 : Int) (b0 : 0 ≤ s0 ∧ s0 ≤ 35640) (b1 : 0 ≤ s1 ∧ s1 ≤ 3) (b2 : 0 ≤ s2 ∧ s2 ≤ 9) (m0 : HP 328 (s1) (s0) M) (m1 : HP 342 (s2) (0 : Int) M) (f0 : 0 ≤ (s2 - 8)) (hG : gI M) : (0 ≤ ((-1) * s0 + 31680) ∧ True) := by
  obtain ⟨j1, x1, x2, x3⟩ := Eq.mp hp_328 m0
  obtain ⟨h1, h2, h3⟩ := Eq.mp hp_342 m1
  obtain ⟨a, a1, a2⟩ := x3.2.1
  have k := hps_b (m := hmC M) (t := (hrow 59 8 M)) (a := a) (K := 3960) (by decide) (g := 8) (fun o ho => h3 o (by omega))
  rw [a2] at k
  exact ⟨by omega, trivial⟩
theorem rul_928 : Rul r_928 := by
  refine ⟨fun _ ρ M hm hB hF hG => ?_, fun gi gv hg => (by cases hg)⟩
  have H := cr_928 M (ρ 0) (ρ 1) (ρ 2) (hB _ List.mem_cons_self) (hB _ (List.mem_cons_of_mem _ List.mem_cons_self)) (hB _ (List.mem_cons_of_mem _ (List.mem_cons_of_mem _ List.mem_cons_self))) (cvp 328 (x' := ((ρ 1))) (y' := ((ρ 0))) (by show 0 + (1 * ρ 1 + 0) = _; omega) (by show 0 + (1 * ρ 0 + 0) = _; omega) (hm _ List.mem_cons_self)) (cvp 342 (x' := ((ρ 2))) (y' := (0 : Int)) (by show 0 + (1 * ρ 2 + 0) = _; omega) (by show 0 + 0 = _; omega) (hm _ (List.mem_cons_of_mem _ List.mem_cons_self))) (by have h := hF _ List.mem_cons_self; have h : 0 ≤ (-8) + (1 * ρ 2 + 0) := h; omega) hG
  obtain ⟨f0, -⟩ := H
  exact ⟨_, List.mem_cons_self, ρ, fun _ _ => rfl, okM_n, okB_n, (okF_c (by show 0 ≤ 31680 + ((-1) * ρ 0 + 0); omega) okF_n)⟩
-- gpr9
theorem cr_929 (M : pM) (s0 s1 s2 s3 : Int) (b0 : 1 ≤ s0 ∧ s0 ≤ 3) (b1 : 0 ≤ s1 ∧ s1 ≤ 35640) (b2 : 0 ≤ s2 ∧ s2 ≤ 9) (b3 : 0 ≤ s3 ∧ s3 ≤ 1000000) (m0 : HP 319 (0 : Int) (s0) M) (m1 : HP 329 (0 : Int) (s1) M) (m2 : (0 ≤ (1 : Int) ∧ M 55 (1 : Int).toNat = (s2))) (m3 : (0 ≤ (6 : Int) ∧ M 55 (6 : Int).toNat = (s3))) (f0 : 0 ≤ (s1 + (-1) * s3)) (f1 : 0 ≤ (s2 - 9)) (hG : gI M) : (HP 319 (s0) (s0) M ∧ True) := by
  obtain ⟨j0, T0, t1, t2, t3, t4, t5, t6, t7⟩ := Eq.mp hp_319 m0
  obtain ⟨j1, x1, x2, x3⟩ := Eq.mp hp_329 m1
  have en : hnC M = s2.toNat := hnC_v (by omega) (by have h : M 55 1 = s2 := m2.2; rw [h]; omega)
  have eb : M 55 6 = s3 := m3.2
  have ej : j0 = 0 := by omega
  subst ej
  exact ⟨Eq.mpr hp_319 ⟨T0, T0, t1, t2, Nat.le_refl _, by omega, by omega, t6, hj_pr (hmC_0 hG) (by rw [en]; omega) t7 x3 (by rw [eb]; omega)⟩, trivial⟩
theorem rul_929 : Rul r_929 := by
  refine ⟨fun _ ρ M hm hB hF hG => ?_, fun gi gv hg => (by cases hg)⟩
  have H := cr_929 M (ρ 0) (ρ 1) (ρ 2) (ρ 3) (hB _ List.mem_cons_self) (hB _ (List.mem_cons_of_mem _ List.mem_cons_self)) (hB _ (List.mem_cons_of_mem _ (List.mem_cons_of_mem _ List.mem_cons_self))) (hB _ (List.mem_cons_of_mem _ (List.mem_cons_of_mem _ (List.mem_cons_of_mem _ List.mem_cons_self)))) (cvp 319 (x' := (0 : Int)) (y' := ((ρ 0))) (by show 0 + 0 = _; omega) (by show 0 + (1 * ρ 0 + 0) = _; omega) (hm _ List.mem_cons_self)) (cvp 329 (x' := (0 : Int)) (y' := ((ρ 1))) (by show 0 + 0 = _; omega) (by show 0 + (1 * ρ 1 + 0) = _; omega) (hm _ (List.mem_cons_of_mem _ List.mem_cons_self))) (cvm (c := 55) (by decide) (x' := (1 : Int)) (y' := ((ρ 2))) (by show 1 + 0 = _; omega) (by show 0 + (1 * ρ 2 + 0) = _; omega) (hm _ (List.mem_cons_of_mem _ (List.mem_cons_of_mem _ List.mem_cons_self)))) (cvm (c := 55) (by decide) (x' := (6 : Int)) (y' := ((ρ 3))) (by show 6 + 0 = _; omega) (by show 0 + (1 * ρ 3 + 0) = _; omega) (hm _ (List.mem_cons_of_mem _ (List.mem_cons_of_mem _ (List.mem_cons_of_mem _ List.mem_cons_self))))) (by have h := hF _ List.mem_cons_self; have h : 0 ≤ 0 + (1 * ρ 1 + ((-1) * ρ 3 + 0)) := h; omega) (by have h := hF _ (List.mem_cons_of_mem _ List.mem_cons_self); have h : 0 ≤ (-9) + (1 * ρ 2 + 0) := h; omega) hG
  obtain ⟨k0, -⟩ := H
  exact ⟨_, List.mem_cons_self, ρ, fun _ _ => rfl, (okM_c (pvp 319 (by show 0 + (1 * ρ 0 + 0) = _; omega) (by show 0 + (1 * ρ 0 + 0) = _; omega) k0) okM_n), okB_n, okF_n⟩
-- glf9
theorem cr_930 (M : pM) (s0 s1 s2 s3 : Int) (b0 : 1 ≤ s0 ∧ s0 ≤ 3) (b1 : 0 ≤ s1 ∧ s1 ≤ 35640) (b2 : 0 ≤ s2 ∧ s2 ≤ 9) (b3 : 0 ≤ s3 ∧ s3 ≤ 1000000) (m0 : HP 319 (0 : Int) (s0) M) (m1 : HP 329 (0 : Int) (s1) M) (m2 : (0 ≤ (1 : Int) ∧ M 55 (1 : Int).toNat = (s2))) (m3 : (0 ≤ (6 : Int) ∧ M 55 (6 : Int).toNat = (s3))) (f0 : 0 ≤ ((-1) * s1 + s3 - 1)) (f1 : 0 ≤ ((-1) * s2 + 9)) (f2 : 0 ≤ (s2 - 9)) (hG : gI M) : (HP 340 (s1) (s0) M ∧ True) := by
  obtain ⟨j0, T0, t1, t2, t3, t4, t5, t6, t7⟩ := Eq.mp hp_319 m0
  obtain ⟨j1, x1, x2, x3⟩ := Eq.mp hp_329 m1
  have en : hnC M = s2.toNat := hnC_v (by omega) (by have h : M 55 1 = s2 := m2.2; rw [h]; omega)
  have eb : M 55 6 = s3 := m3.2
  have ej : j0 = 0 := by omega
  subst ej
  have en2 : hnC M = 9 := by rw [en]; omega
  rw [en2] at t7
  obtain ⟨k1, k2⟩ := hj_lf t7 x3 (by rw [eb]; omega)
  exact ⟨Eq.mpr hp_340 ⟨T0, t1, t2, by omega, by rw [en2]; exact fun o ho => by rw [hrow_lt ho (by decide)]; exact t6 o ho, by rw [en2]; exact (hco_c (fun o ho => hrow_lt ho (by decide))).trans k1, by rw [en2]; exact fun t ht hl => k2 t ht (hlx_c hl (fun o ho => hrow_lt ho (by decide)))⟩, trivial⟩
theorem rul_930 : Rul r_930 := by
  refine ⟨fun _ ρ M hm hB hF hG => ?_, fun gi gv hg => (by cases hg)⟩
  have H := cr_930 M (ρ 0) (ρ 1) (ρ 2) (ρ 3) (hB _ List.mem_cons_self) (hB _ (List.mem_cons_of_mem _ List.mem_cons_self)) (hB _ (List.mem_cons_of_mem _ (List.mem_cons_of_mem _ List.mem_cons_self))) (hB _ (List.mem_cons_of_mem _ (List.mem_cons_of_mem _ (List.mem_cons_of_mem _ List.mem_cons_self)))) (cvp 319 (x' := (0 : Int)) (y' := ((ρ 0))) (by show 0 + 0 = _; omega) (by show 0 + (1 * ρ 0 + 0) = _; omega) (hm _ List.mem_cons_self)) (cvp 329 (x' := (0 : Int)) (y' := ((ρ 1))) (by show 0 + 0 = _; omega) (by show 0 + (1 * ρ 1 + 0) = _; omega) (hm _ (List.mem_cons_of_mem _ List.mem_cons_self))) (cvm (c := 55) (by decide) (x' := (1 : Int)) (y' := ((ρ 2))) (by show 1 + 0 = _; omega) (by show 0 + (1 * ρ 2 + 0) = _; omega) (hm _ (List.mem_cons_of_mem _ (List.mem_cons_of_mem _ List.mem_cons_self)))) (cvm (c := 55) (by decide) (x' := (6 : Int)) (y' := ((ρ 3))) (by show 6 + 0 = _; omega) (by show 0 + (1 * ρ 3 + 0) = _; omega) (hm _ (List.mem_cons_of_mem _ (List.mem_cons_of_mem _ (List.mem_cons_of_mem _ List.mem_cons_self))))) (by have h := hF _ List.mem_cons_self; have h : 0 ≤ (-1) + ((-1) * ρ 1 + (1 * ρ 3 + 0)) := h; omega) (by have h := hF _ (List.mem_cons_of_mem _ List.mem_cons_self); have h : 0 ≤ 9 + ((-1) * ρ 2 + 0) := h; omega) (by have h := hF _ (List.mem_cons_of_mem _ (List.mem_cons_of_mem _ List.mem_cons_self)); have h : 0 ≤ (-9) + (1 * ρ 2 + 0) := h; omega) hG
  obtain ⟨k0, -⟩ := H
  exact ⟨_, List.mem_cons_self, ρ, fun _ _ => rfl, (okM_c (pvp 340 (by show 0 + (1 * ρ 1 + 0) = _; omega) (by show 0 + (1 * ρ 0 + 0) = _; omega) k0) okM_n), okB_n, okF_n⟩
-- glx9
theorem cr_931 (M : pM) (s0 s1 s2 s3 : Int) (b0 : 1 ≤ s0 ∧ s0 ≤ 3) (b1 : 0 ≤ s1 ∧ s1 ≤ 35640) (b2 : 0 ≤ s2 ∧ s2 ≤ 9) (b3 : 0 ≤ s3 ∧ s3 ≤ 1000000) (m0 : HP 340 (s1) (s0) M) (m1 : HP 341 (s2) (0 : Int) M) (m2 : (0 ≤ (1 : Int) ∧ M 55 (1 : Int).toNat = (s2))) (m3 : (0 ≤ (6 : Int) ∧ M 55 (6 : Int).toNat = (s3))) (f0 : 0 ≤ ((-1) * s2 + 9)) (f1 : 0 ≤ (s2 - 9)) (f2 : 0 ≤ (s1 + (-1) * s3)) (f3 : 0 ≤ ((-1) * s1 + s3)) (hG : gI M) : (HP 319 (s0) (s0) M ∧ True) := by
  obtain ⟨T0, q1, q2, q3, q4, q5, q6⟩ := Eq.mp hp_340 m0
  have c2 := Eq.mp hp_341 m1
  have en : hnC M = s2.toNat := hnC_v (by omega) (by have h : M 55 1 = s2 := m2.2; rw [h]; omega)
  have eb : M 55 6 = s3 := m3.2
  have en2 : hnC M = 9 := by rw [en]; omega
  rw [en2] at q4 q5 q6
  exact ⟨Eq.mpr hp_319 ⟨T0, T0, q1, q2, Nat.le_refl _, by omega, by omega, fun o ho => by rw [← hrow_lt (k := 9) ho (by decide)]; exact q4 o ho, by
      rw [en2]
      exact hj_le (q := hrow 59 9 M) (fun o ho => hrow_lt ho (by decide)) (fun o ho => hrow_e (by omega) (c2 o (by omega) (by omega))) q4 (q5.trans (by rw [eb]; omega)) (fun t ht hl => by have := q6 t ht hl; rw [eb]; omega)⟩, trivial⟩
theorem rul_931 : Rul r_931 := by
  refine ⟨fun _ ρ M hm hB hF hG => ?_, fun gi gv hg => (by cases hg)⟩
  have H := cr_931 M (ρ 0) (ρ 1) (ρ 2) (ρ 3) (hB _ List.mem_cons_self) (hB _ (List.mem_cons_of_mem _ List.mem_cons_self)) (hB _ (List.mem_cons_of_mem _ (List.mem_cons_of_mem _ List.mem_cons_self))) (hB _ (List.mem_cons_of_mem _ (List.mem_cons_of_mem _ (List.mem_cons_of_mem _ List.mem_cons_self)))) (cvp 340 (x' := ((ρ 1))) (y' := ((ρ 0))) (by show 0 + (1 * ρ 1 + 0) = _; omega) (by show 0 + (1 * ρ 0 + 0) = _; omega) (hm _ List.mem_cons_self)) (cvp 341 (x' := ((ρ 2))) (y' := (0 : Int)) (by show 0 + (1 * ρ 2 + 0) = _; omega) (by show 0 + 0 = _; omega) (hm _ (List.mem_cons_of_mem _ List.mem_cons_self))) (cvm (c := 55) (by decide) (x' := (1 : Int)) (y' := ((ρ 2))) (by show 1 + 0 = _; omega) (by show 0 + (1 * ρ 2 + 0) = _; omega) (hm _ (List.mem_cons_of_mem _ (List.mem_cons_of_mem _ List.mem_cons_self)))) (cvm (c := 55) (by decide) (x' := (6 : Int)) (y' := ((ρ 3))) (by show 6 + 0 = _; omega) (by show 0 + (1 * ρ 3 + 0) = _; omega) (hm _ (List.mem_cons_of_mem _ (List.mem_cons_of_mem _ (List.mem_cons_of_mem _ List.mem_cons_self))))) (by have h := hF _ List.mem_cons_self; have h : 0 ≤ 9 + ((-1) * ρ 2 + 0) := h; omega) (by have h := hF _ (List.mem_cons_of_mem _ List.mem_cons_self); have h : 0 ≤ (-9) + (1 * ρ 2 + 0) := h; omega) (by have h := hF _ (List.mem_cons_of_mem _ (List.mem_cons_of_mem _ List.mem_cons_self)); have h : 0 ≤ 0 + (1 * ρ 1 + ((-1) * ρ 3 + 0)) := h; omega) (by have h := hF _ (List.mem_cons_of_mem _ (List.mem_cons_of_mem _ (List.mem_cons_of_mem _ List.mem_cons_self))); have h : 0 ≤ 0 + ((-1) * ρ 1 + (1 * ρ 3 + 0)) := h; omega) hG
  obtain ⟨k0, -⟩ := H
  exact ⟨_, List.mem_cons_self, ρ, fun _ _ => rfl, (okM_c (pvp 319 (by show 0 + (1 * ρ 0 + 0) = _; omega) (by show 0 + (1 * ρ 0 + 0) = _; omega) k0) okM_n), okB_n, okF_n⟩
-- lr00
theorem cr_932 (M : pM)  (hG : gI M) : (HP 367 (0 : Int) (0 : Int) M ∧ True) := by
  exact ⟨Eq.mpr hp_367 ⟨by omega, fun i hi => by omega⟩, trivial⟩
theorem rul_932 : Rul r_932 := by
  refine ⟨fun _ ρ M hm hB hF hG => ?_, fun gi gv hg => (by cases hg)⟩
  have H := cr_932 M hG
  obtain ⟨k0, -⟩ := H
  exact ⟨_, List.mem_cons_self, ρ, fun _ _ => rfl, (okM_c (pvp 367 (by show 0 + 0 = _; omega) (by show 0 + 0 = _; omega) k0) okM_n), okB_n, okF_n⟩
-- lr0w
theorem cr_933 (M : pM) (s0 : Int) (b0 : 0 ≤ s0 ∧ s0 ≤ 2) (m0 : HP 367 (s0) (0 : Int) M) (hG : gI M) : (HP 367 (s0 + 1) (0 : Int) (st M 118 (s0).toNat (0 : Int)) ∧ True) := by
  obtain ⟨h1, h2⟩ := Eq.mp hp_367 m0
  refine ⟨Eq.mpr hp_367 ⟨by omega, fun i hi => ?_⟩, trivial⟩
  show (if 118 = 118 ∧ i = (s0).toNat then (0 : Int) else M 118 i) = _
  by_cases e : i = (s0).toNat
  · rw [if_pos ⟨rfl, e⟩]
  · rw [if_neg (fun q => e q.2)]
    exact h2 i (by omega)
theorem rul_933 : Rul r_933 := by
  refine ⟨fun h => (by cases h), fun gi gv hg ρ M hm hB hF hG => ?_⟩
  obtain ⟨g1, g2⟩ := List.cons.inj (show ([aI ((0 : Int), ([(0, 1)] : List (Nat × Int))), aI ((0 : Int), ([] : List (Nat × Int)))] : List av) = [.inl gi, .inl gv] from hg)
  obtain ⟨g2, -⟩ := List.cons.inj g2
  cases g1
  cases g2
  have ei : ev ρ ((0 : Int), ([(0, 1)] : List (Nat × Int))) = ((ρ 0)) := by show 0 + (1 * ρ 0 + 0) = _; omega
  have ew : ev ρ ((0 : Int), ([] : List (Nat × Int))) = (0 : Int) := by show 0 + 0 = _; omega
  rw [show (st M (ctj r_933) (ev ρ ((0 : Int), ([(0, 1)] : List (Nat × Int)))).toNat (ev ρ ((0 : Int), ([] : List (Nat × Int))))) = (st M 118 ((ρ 0)).toNat (0 : Int)) from by rw [ei, ew]; rfl]
  have H := cr_933 M (ρ 0) (hB _ List.mem_cons_self) (cvp 367 (x' := ((ρ 0))) (y' := (0 : Int)) (by show 0 + (1 * ρ 0 + 0) = _; omega) (by show 0 + 0 = _; omega) (hm _ List.mem_cons_self)) hG
  obtain ⟨k0, -⟩ := H
  exact ⟨_, List.mem_cons_self, ρ, fun _ _ => rfl, (okM_c (pvp 367 (by show 1 + (1 * ρ 0 + 0) = _; omega) (by show 0 + 0 = _; omega) k0) okM_n), okB_n, okF_n⟩
-- mr0
theorem cr_934 (M : pM)  (hG : gI M) : (HP 354 (0 : Int) (0 : Int) M ∧ True) := by
  exact ⟨Eq.mpr hp_354 ⟨by omega, by omega, fun a ha => by omega, Or.inl rfl⟩, trivial⟩
theorem rul_934 : Rul r_934 := by
  refine ⟨fun _ ρ M hm hB hF hG => ?_, fun gi gv hg => (by cases hg)⟩
  have H := cr_934 M hG
  obtain ⟨k0, -⟩ := H
  exact ⟨_, List.mem_cons_self, ρ, fun _ _ => rfl, (okM_c (pvp 354 (by show 0 + 0 = _; omega) (by show 0 + 0 = _; omega) k0) okM_n), okB_n, okF_n⟩
-- mrk
theorem cr_935 (M : pM) (s0 s1 s2 : Int) (b0 : 0 ≤ s0 ∧ s0 ≤ 2) (b1 : 0 ≤ s1 ∧ s1 ≤ 1800000) (b2 : (-2147483648) ≤ s2 ∧ s2 ≤ 2147483647) (m0 : HP 354 (s0) (s1) M) (m1 : (0 ≤ (s0) ∧ M 118 (s0).toNat = (s2))) (f0 : 0 ≤ (s1 + (-1) * s2)) (hG : gI M) : (HP 354 (s0 + 1) (s1) M ∧ True) := by
  obtain ⟨h1, h2, h3, h4⟩ := Eq.mp hp_354 m0
  have k : M 118 s0.toNat = s2 := m1.2
  exact ⟨Eq.mpr hp_354 ⟨by omega, by omega, fun a ha => by
      by_cases e : a = s0.toNat
      · rw [e, k]; omega
      · have := h3 a (by omega); omega, by
      rcases h4 with h4 | ⟨a, a1, a2⟩
      · exact Or.inl h4
      · exact Or.inr ⟨a, by omega, a2⟩⟩, trivial⟩
theorem rul_935 : Rul r_935 := by
  refine ⟨fun _ ρ M hm hB hF hG => ?_, fun gi gv hg => (by cases hg)⟩
  have H := cr_935 M (ρ 0) (ρ 1) (ρ 2) (hB _ List.mem_cons_self) (hB _ (List.mem_cons_of_mem _ List.mem_cons_self)) (hB _ (List.mem_cons_of_mem _ (List.mem_cons_of_mem _ List.mem_cons_self))) (cvp 354 (x' := ((ρ 0))) (y' := ((ρ 1))) (by show 0 + (1 * ρ 0 + 0) = _; omega) (by show 0 + (1 * ρ 1 + 0) = _; omega) (hm _ List.mem_cons_self)) (cvm (c := 118) (by decide) (x' := ((ρ 0))) (y' := ((ρ 2))) (by show 0 + (1 * ρ 0 + 0) = _; omega) (by show 0 + (1 * ρ 2 + 0) = _; omega) (hm _ (List.mem_cons_of_mem _ List.mem_cons_self))) (by have h := hF _ List.mem_cons_self; have h : 0 ≤ 0 + (1 * ρ 1 + ((-1) * ρ 2 + 0)) := h; omega) hG
  obtain ⟨k0, -⟩ := H
  exact ⟨_, List.mem_cons_self, ρ, fun _ _ => rfl, (okM_c (pvp 354 (by show 1 + (1 * ρ 0 + 0) = _; omega) (by show 0 + (1 * ρ 1 + 0) = _; omega) k0) okM_n), okB_n, okF_n⟩
-- mrw
theorem cr_936 (M : pM) (s0 s1 s2 : Int) (b0 : 0 ≤ s0 ∧ s0 ≤ 2) (b1 : 0 ≤ s1 ∧ s1 ≤ 1800000) (b2 : (-2147483648) ≤ s2 ∧ s2 ≤ 2147483647) (m0 : HP 354 (s0) (s1) M) (m1 : (0 ≤ (s0) ∧ M 118 (s0).toNat = (s2))) (f0 : 0 ≤ ((-1) * s1 + s2 - 1)) (hG : gI M) : (HP 354 (s0 + 1) (s2) M ∧ True) := by
  obtain ⟨h1, h2, h3, h4⟩ := Eq.mp hp_354 m0
  have k : M 118 s0.toNat = s2 := m1.2
  exact ⟨Eq.mpr hp_354 ⟨by omega, by omega, fun a ha => by
      by_cases e : a = s0.toNat
      · rw [e, k]; omega
      · have := h3 a (by omega); omega, Or.inr ⟨s0.toNat, by omega, k⟩⟩, trivial⟩
theorem rul_936 : Rul r_936 := by
  refine ⟨fun _ ρ M hm hB hF hG => ?_, fun gi gv hg => (by cases hg)⟩
  have H := cr_936 M (ρ 0) (ρ 1) (ρ 2) (hB _ List.mem_cons_self) (hB _ (List.mem_cons_of_mem _ List.mem_cons_self)) (hB _ (List.mem_cons_of_mem _ (List.mem_cons_of_mem _ List.mem_cons_self))) (cvp 354 (x' := ((ρ 0))) (y' := ((ρ 1))) (by show 0 + (1 * ρ 0 + 0) = _; omega) (by show 0 + (1 * ρ 1 + 0) = _; omega) (hm _ List.mem_cons_self)) (cvm (c := 118) (by decide) (x' := ((ρ 0))) (y' := ((ρ 2))) (by show 0 + (1 * ρ 0 + 0) = _; omega) (by show 0 + (1 * ρ 2 + 0) = _; omega) (hm _ (List.mem_cons_of_mem _ List.mem_cons_self))) (by have h := hF _ List.mem_cons_self; have h : 0 ≤ (-1) + ((-1) * ρ 1 + (1 * ρ 2 + 0)) := h; omega) hG
  obtain ⟨k0, -⟩ := H
  exact ⟨_, List.mem_cons_self, ρ, fun _ _ => rfl, (okM_c (pvp 354 (by show 1 + (1 * ρ 0 + 0) = _; omega) (by show 0 + (1 * ρ 2 + 0) = _; omega) k0) okM_n), okB_n, okF_n⟩
-- cpf0
theorem cr_937 (M : pM)  (hG : gI M) : (HP 371 (0 : Int) (0 : Int) M ∧ True) := by
  exact ⟨Eq.mpr hp_371 ⟨by omega, fun i hi => by omega⟩, trivial⟩
theorem rul_937 : Rul r_937 := by
  refine ⟨fun _ ρ M hm hB hF hG => ?_, fun gi gv hg => (by cases hg)⟩
  have H := cr_937 M hG
  obtain ⟨k0, -⟩ := H
  exact ⟨_, List.mem_cons_self, ρ, fun _ _ => rfl, (okM_c (pvp 371 (by show 0 + 0 = _; omega) (by show 0 + 0 = _; omega) k0) okM_n), okB_n, okF_n⟩
-- cpw
theorem cr_938 (M : pM) (s0 s1 : Int) (b0 : 0 ≤ s0 ∧ s0 ≤ 8) (b1 : (-2147483648) ≤ s1 ∧ s1 ≤ 2147483647) (m0 : HP 371 (s0) (0 : Int) M) (m1 : (0 ≤ (s0) ∧ M 117 (s0).toNat = (s1))) (hG : gI M) : (HP 371 (s0 + 1) (0 : Int) (st M 116 (s0).toNat (s1)) ∧ True) := by
  obtain ⟨h1, h2⟩ := Eq.mp hp_371 m0
  refine ⟨Eq.mpr hp_371 ⟨by omega, fun i hi => ?_⟩, trivial⟩
  show (if 116 = 116 ∧ i = (s0).toNat then (s1) else M 116 i) = (if 117 = 116 ∧ i = (s0).toNat then (s1) else M 117 i)
  rw [if_neg (show ¬ (117 = 116 ∧ i = (s0).toNat) by omega)]
  by_cases e : i = (s0).toNat
  · rw [if_pos ⟨rfl, e⟩, e]
    exact m1.2.symm
  · rw [if_neg (fun q => e q.2)]
    exact h2 i (by omega)
theorem rul_938 : Rul r_938 := by
  refine ⟨fun h => (by cases h), fun gi gv hg ρ M hm hB hF hG => ?_⟩
  obtain ⟨g1, g2⟩ := List.cons.inj (show ([aI ((0 : Int), ([(0, 1)] : List (Nat × Int))), aI ((0 : Int), ([(1, 1)] : List (Nat × Int)))] : List av) = [.inl gi, .inl gv] from hg)
  obtain ⟨g2, -⟩ := List.cons.inj g2
  cases g1
  cases g2
  have ei : ev ρ ((0 : Int), ([(0, 1)] : List (Nat × Int))) = ((ρ 0)) := by show 0 + (1 * ρ 0 + 0) = _; omega
  have ew : ev ρ ((0 : Int), ([(1, 1)] : List (Nat × Int))) = ((ρ 1)) := by show 0 + (1 * ρ 1 + 0) = _; omega
  rw [show (st M (ctj r_938) (ev ρ ((0 : Int), ([(0, 1)] : List (Nat × Int)))).toNat (ev ρ ((0 : Int), ([(1, 1)] : List (Nat × Int))))) = (st M 116 ((ρ 0)).toNat ((ρ 1))) from by rw [ei, ew]; rfl]
  have H := cr_938 M (ρ 0) (ρ 1) (hB _ List.mem_cons_self) (hB _ (List.mem_cons_of_mem _ List.mem_cons_self)) (cvp 371 (x' := ((ρ 0))) (y' := (0 : Int)) (by show 0 + (1 * ρ 0 + 0) = _; omega) (by show 0 + 0 = _; omega) (hm _ List.mem_cons_self)) (cvm (c := 117) (by decide) (x' := ((ρ 0))) (y' := ((ρ 1))) (by show 0 + (1 * ρ 0 + 0) = _; omega) (by show 0 + (1 * ρ 1 + 0) = _; omega) (hm _ (List.mem_cons_of_mem _ List.mem_cons_self))) hG
  obtain ⟨k0, -⟩ := H
  exact ⟨_, List.mem_cons_self, ρ, fun _ _ => rfl, (okM_c (pvp 371 (by show 1 + (1 * ρ 0 + 0) = _; omega) (by show 0 + 0 = _; omega) k0) okM_n), okB_n, okF_n⟩
-- rbr0
theorem cr_939 (M : pM) (s0 : Int) (b0 : 0 ≤ s0 ∧ s0 ≤ 63) (hG : gI M) : (HP 358 (s0) (0 : Int) M ∧ True) := by
  exact ⟨Eq.mpr hp_358 ⟨s0.toNat, 0, by omega, by omega, by omega, fun o ho => absurd ho (Nat.not_lt_zero o)⟩, trivial⟩
theorem rul_939 : Rul r_939 := by
  refine ⟨fun _ ρ M hm hB hF hG => ?_, fun gi gv hg => (by cases hg)⟩
  have H := cr_939 M (ρ 0) (hB _ List.mem_cons_self) hG
  obtain ⟨k0, -⟩ := H
  exact ⟨_, List.mem_cons_self, ρ, fun _ _ => rfl, (okM_c (pvp 358 (by show 0 + (1 * ρ 0 + 0) = _; omega) (by show 0 + 0 = _; omega) k0) okM_n), okB_n, okF_n⟩
-- rbr_0
theorem cr_940 (M : pM) (s0 s1 s2 s3 : Int) (b0 : 0 ≤ s0 ∧ s0 ≤ 63) (b1 : 0 ≤ s1 ∧ s1 ≤ 8) (b2 : 0 ≤ s2 ∧ s2 ≤ 63) (b3 : 0 ≤ s3 ∧ s3 ≤ 99999) (m0 : HP 358 (s0 + 64 * s1) (0 : Int) M) (m1 : HP 292 (0 : Int) (0 : Int) M) (m2 : (0 ≤ (s1) ∧ M 115 (s1).toNat = (s2))) (m3 : (0 ≤ (64 * s0 + s2) ∧ M 114 (64 * s0 + s2).toNat = (s3))) (hG : gI M) : (HP 358 (s0 + 64 * s1 + 64) (0 : Int) M ∧ 0 ≤ ((-1) * s3 + 1980) ∧ True) := by
  obtain ⟨f0, n0, f1, f2, f3, hr⟩ := Eq.mp hp_358 m0
  have ef : f0 = s0.toNat := by omega
  have en0 : n0 = s1.toNat := by omega
  subst ef; subst en0
  have ho := dok_b (b := 0) (M := M) (f := s0.toNat) (Eq.mp hp_292 m1) (by omega)
  have hbd := dok_bd (dR_lt 0 M) (show dRn 0 M ≤ 20 from Nat.min_le_right _ _) (fun r _ => dRm_b hG (by decide) r) ho
  have hm := hmR_v (f := s0.toNat) (o := s1.toNat) (c := s2.toNat) (by omega) (by omega) (m2.2.trans (by omega)) (show M 114 (64 * s0.toNat + s2.toNat) = s3 by rw [show 64 * s0.toNat + s2.toNat = (64 * s0 + s2).toNat by omega]; exact m3.2)
  have dx : dDf s0.toNat M s2.toNat = s3 := (dDf_v (by omega)).trans (by rw [show 64 * s0.toNat + s2.toNat = (64 * s0 + s2).toNat by omega]; exact m3.2)
  have k0 := hbd s2.toNat (by omega) (by rw [dx]; omega)
  rw [dx] at k0
  exact ⟨Eq.mpr hp_358 ⟨s0.toNat, s1.toNat + 1, by omega, by omega, by omega, fun o ho => by
      by_cases e : o = s1.toNat
      · rw [e, hm]; omega
      · exact hr o (by omega)⟩, by omega, trivial⟩
theorem rul_940 : Rul r_940 := by
  refine ⟨fun _ ρ M hm hB hF hG => ?_, fun gi gv hg => (by cases hg)⟩
  have H := cr_940 M (ρ 0) (ρ 1) (ρ 2) (ρ 3) (hB _ List.mem_cons_self) (hB _ (List.mem_cons_of_mem _ List.mem_cons_self)) (hB _ (List.mem_cons_of_mem _ (List.mem_cons_of_mem _ List.mem_cons_self))) (hB _ (List.mem_cons_of_mem _ (List.mem_cons_of_mem _ (List.mem_cons_of_mem _ List.mem_cons_self)))) (cvp 358 (x' := ((ρ 0) + 64 * (ρ 1))) (y' := (0 : Int)) (by show 0 + (1 * ρ 0 + (64 * ρ 1 + 0)) = _; omega) (by show 0 + 0 = _; omega) (hm _ List.mem_cons_self)) (cvp 292 (x' := (0 : Int)) (y' := (0 : Int)) (by show 0 + 0 = _; omega) (by show 0 + 0 = _; omega) (hm _ (List.mem_cons_of_mem _ List.mem_cons_self))) (cvm (c := 115) (by decide) (x' := ((ρ 1))) (y' := ((ρ 2))) (by show 0 + (1 * ρ 1 + 0) = _; omega) (by show 0 + (1 * ρ 2 + 0) = _; omega) (hm _ (List.mem_cons_of_mem _ (List.mem_cons_of_mem _ List.mem_cons_self)))) (cvm (c := 114) (by decide) (x' := (64 * (ρ 0) + (ρ 2))) (y' := ((ρ 3))) (by show 0 + (64 * ρ 0 + (1 * ρ 2 + 0)) = _; omega) (by show 0 + (1 * ρ 3 + 0) = _; omega) (hm _ (List.mem_cons_of_mem _ (List.mem_cons_of_mem _ (List.mem_cons_of_mem _ List.mem_cons_self))))) hG
  obtain ⟨k0, f0, -⟩ := H
  exact ⟨_, List.mem_cons_self, ρ, fun _ _ => rfl, (okM_c (pvp 358 (by show 64 + (1 * ρ 0 + (64 * ρ 1 + 0)) = _; omega) (by show 0 + 0 = _; omega) k0) okM_n), okB_n, (okF_c (by show 0 ≤ 1980 + ((-1) * ρ 3 + 0); omega) okF_n)⟩
-- rbr_1
theorem cr_941 (M : pM) (s0 s1 s2 s3 : Int) (b0 : 0 ≤ s0 ∧ s0 ≤ 63) (b1 : 0 ≤ s1 ∧ s1 ≤ 8) (b2 : 0 ≤ s2 ∧ s2 ≤ 63) (b3 : 0 ≤ s3 ∧ s3 ≤ 99999) (m0 : HP 358 (s0 + 64 * s1) (0 : Int) M) (m1 : HP 293 (0 : Int) (0 : Int) M) (m2 : (0 ≤ (s1) ∧ M 115 (s1).toNat = (s2))) (m3 : (0 ≤ (64 * s0 + s2) ∧ M 114 (64 * s0 + s2).toNat = (s3))) (hG : gI M) : (HP 358 (s0 + 64 * s1 + 64) (0 : Int) M ∧ 0 ≤ ((-1) * s3 + 1980) ∧ True) := by
  obtain ⟨f0, n0, f1, f2, f3, hr⟩ := Eq.mp hp_358 m0
  have ef : f0 = s0.toNat := by omega
  have en0 : n0 = s1.toNat := by omega
  subst ef; subst en0
  have ho := dok_b (b := 1) (M := M) (f := s0.toNat) (Eq.mp hp_293 m1) (by omega)
  have hbd := dok_bd (dR_lt 1 M) (show dRn 1 M ≤ 20 from Nat.min_le_right _ _) (fun r _ => dRm_b hG (by decide) r) ho
  have hm := hmR_v (f := s0.toNat) (o := s1.toNat) (c := s2.toNat) (by omega) (by omega) (m2.2.trans (by omega)) (show M 114 (64 * s0.toNat + s2.toNat) = s3 by rw [show 64 * s0.toNat + s2.toNat = (64 * s0 + s2).toNat by omega]; exact m3.2)
  have dx : dDf s0.toNat M s2.toNat = s3 := (dDf_v (by omega)).trans (by rw [show 64 * s0.toNat + s2.toNat = (64 * s0 + s2).toNat by omega]; exact m3.2)
  have k0 := hbd s2.toNat (by omega) (by rw [dx]; omega)
  rw [dx] at k0
  exact ⟨Eq.mpr hp_358 ⟨s0.toNat, s1.toNat + 1, by omega, by omega, by omega, fun o ho => by
      by_cases e : o = s1.toNat
      · rw [e, hm]; omega
      · exact hr o (by omega)⟩, by omega, trivial⟩
theorem rul_941 : Rul r_941 := by
  refine ⟨fun _ ρ M hm hB hF hG => ?_, fun gi gv hg => (by cases hg)⟩
  have H := cr_941 M (ρ 0) (ρ 1) (ρ 2) (ρ 3) (hB _ List.mem_cons_self) (hB _ (List.mem_cons_of_mem _ List.mem_cons_self)) (hB _ (List.mem_cons_of_mem _ (List.mem_cons_of_mem _ List.mem_cons_self))) (hB _ (List.mem_cons_of_mem _ (List.mem_cons_of_mem _ (List.mem_cons_of_mem _ List.mem_cons_self)))) (cvp 358 (x' := ((ρ 0) + 64 * (ρ 1))) (y' := (0 : Int)) (by show 0 + (1 * ρ 0 + (64 * ρ 1 + 0)) = _; omega) (by show 0 + 0 = _; omega) (hm _ List.mem_cons_self)) (cvp 293 (x' := (0 : Int)) (y' := (0 : Int)) (by show 0 + 0 = _; omega) (by show 0 + 0 = _; omega) (hm _ (List.mem_cons_of_mem _ List.mem_cons_self))) (cvm (c := 115) (by decide) (x' := ((ρ 1))) (y' := ((ρ 2))) (by show 0 + (1 * ρ 1 + 0) = _; omega) (by show 0 + (1 * ρ 2 + 0) = _; omega) (hm _ (List.mem_cons_of_mem _ (List.mem_cons_of_mem _ List.mem_cons_self)))) (cvm (c := 114) (by decide) (x' := (64 * (ρ 0) + (ρ 2))) (y' := ((ρ 3))) (by show 0 + (64 * ρ 0 + (1 * ρ 2 + 0)) = _; omega) (by show 0 + (1 * ρ 3 + 0) = _; omega) (hm _ (List.mem_cons_of_mem _ (List.mem_cons_of_mem _ (List.mem_cons_of_mem _ List.mem_cons_self))))) hG
  obtain ⟨k0, f0, -⟩ := H
  exact ⟨_, List.mem_cons_self, ρ, fun _ _ => rfl, (okM_c (pvp 358 (by show 64 + (1 * ρ 0 + (64 * ρ 1 + 0)) = _; omega) (by show 0 + 0 = _; omega) k0) okM_n), okB_n, (okF_c (by show 0 ≤ 1980 + ((-1) * ρ 3 + 0); omega) okF_n)⟩
-- s123
theorem cr_942 (M : pM) (s0 : Int) (b0 : 1 ≤ s0 ∧ s0 ≤ 3) (hG : gI M) : (0 ≤ ((-1) * s0 + 1) ∧ 0 ≤ (s0 - 1) ∧ True) ∨ (0 ≤ ((-1) * s0 + 2) ∧ 0 ≤ (s0 - 2) ∧ True) ∨ (0 ≤ ((-1) * s0 + 3) ∧ 0 ≤ (s0 - 3) ∧ True) := by
  have h : s0 = 1 ∨ s0 = 2 ∨ s0 = 3 := by omega
  rcases h with h | h | h
  · exact Or.inl ⟨by omega, by omega, trivial⟩
  · exact Or.inr (Or.inl ⟨by omega, by omega, trivial⟩)
  · exact Or.inr (Or.inr ⟨by omega, by omega, trivial⟩)
theorem rul_942 : Rul r_942 := by
  refine ⟨fun _ ρ M hm hB hF hG => ?_, fun gi gv hg => (by cases hg)⟩
  have H := cr_942 M (ρ 0) (hB _ List.mem_cons_self) hG
  rcases H with H | H
  · skip
    obtain ⟨f0, f1, -⟩ := H
    exact ⟨_, List.mem_cons_self, ρ, fun _ _ => rfl, okM_n, okB_n, (okF_c (by show 0 ≤ 1 + ((-1) * ρ 0 + 0); omega) (okF_c (by show 0 ≤ (-1) + (1 * ρ 0 + 0); omega) okF_n))⟩
  rcases H with H | H
  · skip
    obtain ⟨f0, f1, -⟩ := H
    exact ⟨_, (List.mem_cons_of_mem _ List.mem_cons_self), ρ, fun _ _ => rfl, okM_n, okB_n, (okF_c (by show 0 ≤ 2 + ((-1) * ρ 0 + 0); omega) (okF_c (by show 0 ≤ (-2) + (1 * ρ 0 + 0); omega) okF_n))⟩
  · skip
    obtain ⟨f0, f1, -⟩ := H
    exact ⟨_, (List.mem_cons_of_mem _ (List.mem_cons_of_mem _ List.mem_cons_self)), ρ, fun _ _ => rfl, okM_n, okB_n, (okF_c (by show 0 ≤ 3 + ((-1) * ρ 0 + 0); omega) (okF_c (by show 0 ≤ (-3) + (1 * ρ 0 + 0); omega) okF_n))⟩
-- rbrx
theorem cr_943 (M : pM) (s0 s1 s2 : Int) (b0 : 0 ≤ s0 ∧ s0 ≤ 63) (b1 : 0 ≤ s1 ∧ s1 ≤ 9) (b2 : 0 ≤ s2 ∧ s2 ≤ 9) (m0 : HP 358 (s0 + 64 * s1) (0 : Int) M) (m1 : (0 ≤ (99 : Int) ∧ M 61 (99 : Int).toNat = (s2))) (f0 : 0 ≤ (s1 + (-1) * s2)) (f1 : 0 ≤ ((-1) * s1 + s2)) (hG : gI M) : (HP 358 (s0 + 64 * s2) (0 : Int) M ∧ True) := by
  obtain ⟨f0, n0, f1, f2, f3, hr⟩ := Eq.mp hp_358 m0
  exact ⟨Eq.mpr hp_358 ⟨f0, n0, f1, f2, by omega, hr⟩, trivial⟩
theorem rul_943 : Rul r_943 := by
  refine ⟨fun _ ρ M hm hB hF hG => ?_, fun gi gv hg => (by cases hg)⟩
  have H := cr_943 M (ρ 0) (ρ 1) (ρ 2) (hB _ List.mem_cons_self) (hB _ (List.mem_cons_of_mem _ List.mem_cons_self)) (hB _ (List.mem_cons_of_mem _ (List.mem_cons_of_mem _ List.mem_cons_self))) (cvp 358 (x' := ((ρ 0) + 64 * (ρ 1))) (y' := (0 : Int)) (by show 0 + (1 * ρ 0 + (64 * ρ 1 + 0)) = _; omega) (by show 0 + 0 = _; omega) (hm _ List.mem_cons_self)) (cvm (c := 61) (by decide) (x' := (99 : Int)) (y' := ((ρ 2))) (by show 99 + 0 = _; omega) (by show 0 + (1 * ρ 2 + 0) = _; omega) (hm _ (List.mem_cons_of_mem _ List.mem_cons_self))) (by have h := hF _ List.mem_cons_self; have h : 0 ≤ 0 + (1 * ρ 1 + ((-1) * ρ 2 + 0)) := h; omega) (by have h := hF _ (List.mem_cons_of_mem _ List.mem_cons_self); have h : 0 ≤ 0 + ((-1) * ρ 1 + (1 * ρ 2 + 0)) := h; omega) hG
  obtain ⟨k0, -⟩ := H
  exact ⟨_, List.mem_cons_self, ρ, fun _ _ => rfl, (okM_c (pvp 358 (by show 0 + (1 * ρ 0 + (64 * ρ 2 + 0)) = _; omega) (by show 0 + 0 = _; omega) k0) okM_n), okB_n, okF_n⟩
-- nrr
theorem cr_944 (M : pM) (s0 s1 s2 s3 s4 : Int) (b0 : 0 ≤ s0 ∧ s0 ≤ 63) (b1 : 0 ≤ s1 ∧ s1 ≤ 8) (b2 : 0 ≤ s2 ∧ s2 ≤ 63) (b3 : 0 ≤ s3 ∧ s3 ≤ 100000) (b4 : 0 ≤ s4 ∧ s4 ≤ 9) (m0 : (0 ≤ (s1) ∧ M 115 (s1).toNat = (s2))) (m1 : (0 ≤ (64 * s0 + s2) ∧ M 114 (64 * s0 + s2).toNat = (s3))) (m2 : (0 ≤ (99 : Int) ∧ M 61 (99 : Int).toNat = (s4))) (f0 : 0 ≤ (s3 - 100000)) (f1 : 0 ≤ ((-1) * s1 + s4 - 1)) (hG : gI M) : (HP 366 (s0 + 64 * s4) (0 : Int) M ∧ True) := by
  have hm := hmR_v (f := s0.toNat) (o := s1.toNat) (c := s2.toNat) (by omega) (by omega) (m0.2.trans (by omega)) (show M 114 (64 * s0.toNat + s2.toNat) = s3 by rw [show 64 * s0.toNat + s2.toNat = (64 * s0 + s2).toNat by omega]; exact m1.2)
  exact ⟨Eq.mpr hp_366 ⟨s0.toNat, s4.toNat, by omega, by omega, by omega, s1.toNat, by omega, by rw [hm]; omega⟩, trivial⟩
theorem rul_944 : Rul r_944 := by
  refine ⟨fun _ ρ M hm hB hF hG => ?_, fun gi gv hg => (by cases hg)⟩
  have H := cr_944 M (ρ 0) (ρ 1) (ρ 2) (ρ 3) (ρ 4) (hB _ List.mem_cons_self) (hB _ (List.mem_cons_of_mem _ List.mem_cons_self)) (hB _ (List.mem_cons_of_mem _ (List.mem_cons_of_mem _ List.mem_cons_self))) (hB _ (List.mem_cons_of_mem _ (List.mem_cons_of_mem _ (List.mem_cons_of_mem _ List.mem_cons_self)))) (hB _ (List.mem_cons_of_mem _ (List.mem_cons_of_mem _ (List.mem_cons_of_mem _ (List.mem_cons_of_mem _ List.mem_cons_self))))) (cvm (c := 115) (by decide) (x' := ((ρ 1))) (y' := ((ρ 2))) (by show 0 + (1 * ρ 1 + 0) = _; omega) (by show 0 + (1 * ρ 2 + 0) = _; omega) (hm _ List.mem_cons_self)) (cvm (c := 114) (by decide) (x' := (64 * (ρ 0) + (ρ 2))) (y' := ((ρ 3))) (by show 0 + (64 * ρ 0 + (1 * ρ 2 + 0)) = _; omega) (by show 0 + (1 * ρ 3 + 0) = _; omega) (hm _ (List.mem_cons_of_mem _ List.mem_cons_self))) (cvm (c := 61) (by decide) (x' := (99 : Int)) (y' := ((ρ 4))) (by show 99 + 0 = _; omega) (by show 0 + (1 * ρ 4 + 0) = _; omega) (hm _ (List.mem_cons_of_mem _ (List.mem_cons_of_mem _ List.mem_cons_self)))) (by have h := hF _ List.mem_cons_self; have h : 0 ≤ (-100000) + (1 * ρ 3 + 0) := h; omega) (by have h := hF _ (List.mem_cons_of_mem _ List.mem_cons_self); have h : 0 ≤ (-1) + ((-1) * ρ 1 + (1 * ρ 4 + 0)) := h; omega) hG
  obtain ⟨k0, -⟩ := H
  exact ⟨_, List.mem_cons_self, ρ, fun _ _ => rfl, (okM_c (pvp 366 (by show 0 + (1 * ρ 0 + (64 * ρ 4 + 0)) = _; omega) (by show 0 + 0 = _; omega) k0) okM_n), okB_n, okF_n⟩
-- lh0_1
theorem cr_945 (M : pM) (s0 s1 s2 s3 : Int) (b0 : 0 ≤ s0 ∧ s0 ≤ 63) (b1 : 0 ≤ s1 ∧ s1 ≤ 19683) (b2 : 0 ≤ s2 ∧ s2 ≤ 9) (b3 : 0 ≤ s3 ∧ s3 ≤ 3) (m0 : HP 367 (s3) (0 : Int) M) (m1 : (0 ≤ (99 : Int) ∧ M 61 (99 : Int).toNat = (s2))) (f0 : 0 ≤ (s3 - 3)) (hG : gI M) : (HP 345 (s0 + 1024 * s1 + 64 * s2) (s1) M ∧ True) := by
  obtain ⟨h1, h2⟩ := Eq.mp hp_367 m0
  have en : hnR M = s2.toNat := hnR_v (by omega) (by have h : M 61 99 = s2 := m1.2; rw [h]; omega)
  exact ⟨Eq.mpr hp_345 ⟨s0.toNat, s2.toNat, s1.toNat, by omega, by omega, by omega, by rw [en, Nat.sub_self, Nat.pow_zero, Nat.div_one]; omega, fun i hi hj => by omega, fun a ha => by rw [h2 a (by omega), en]; omega⟩, trivial⟩
theorem rul_945 : Rul r_945 := by
  refine ⟨fun _ ρ M hm hB hF hG => ?_, fun gi gv hg => (by cases hg)⟩
  have H := cr_945 M (ρ 0) (ρ 1) (ρ 2) (ρ 3) (hB _ List.mem_cons_self) (hB _ (List.mem_cons_of_mem _ List.mem_cons_self)) (hB _ (List.mem_cons_of_mem _ (List.mem_cons_of_mem _ List.mem_cons_self))) (hB _ (List.mem_cons_of_mem _ (List.mem_cons_of_mem _ (List.mem_cons_of_mem _ List.mem_cons_self)))) (cvp 367 (x' := ((ρ 3))) (y' := (0 : Int)) (by show 0 + (1 * ρ 3 + 0) = _; omega) (by show 0 + 0 = _; omega) (hm _ List.mem_cons_self)) (cvm (c := 61) (by decide) (x' := (99 : Int)) (y' := ((ρ 2))) (by show 99 + 0 = _; omega) (by show 0 + (1 * ρ 2 + 0) = _; omega) (hm _ (List.mem_cons_of_mem _ List.mem_cons_self))) (by have h := hF _ List.mem_cons_self; have h : 0 ≤ (-3) + (1 * ρ 3 + 0) := h; omega) hG
  obtain ⟨k0, -⟩ := H
  exact ⟨_, List.mem_cons_self, ρ, fun _ _ => rfl, (okM_c (pvp 345 (by show 0 + (1 * ρ 0 + (1024 * ρ 1 + (64 * ρ 2 + 0))) = _; omega) (by show 0 + (1 * ρ 1 + 0) = _; omega) k0) okM_n), okB_n, okF_n⟩
-- lhw_1
theorem cr_946 (M : pM) (s0 s1 s2 s3 s4 s5 s6 : Int) (b0 : 0 ≤ s0 ∧ s0 ≤ 63) (b1 : 0 ≤ s1 ∧ s1 ≤ 19683) (b2 : 0 ≤ s2 ∧ s2 ≤ 8) (b3 : 0 ≤ s3 ∧ s3 ≤ 19683) (b4 : (-2147483648) ≤ s4 ∧ s4 ≤ 2147483647) (b5 : 0 ≤ s5 ∧ s5 ≤ 0) (b6 : 0 ≤ s6 ∧ s6 ≤ 9) (m0 : HP 345 (s0 + 1024 * s1 + 64 * s2 + 64) (s3) M) (m1 : (0 ≤ (99 : Int) ∧ M 61 (99 : Int).toNat = (s6))) (f0 : 0 ≤ ((-1) * s3 + s4 + s5)) (f1 : 0 ≤ (s3 + (-1) * s4 + (-1) * s5)) (f2 : 0 ≤ ((-1) * s2 + s6 - 1)) (hG : gI M) : (HP 348 (s0 + 1024 * s1 + 64 * s2 + 64) (s3) (st M 117 (s2).toNat (s5)) ∧ True) := by
  obtain ⟨f0, o0, w0, h1, h2, h3, h4, h5, h6⟩ := Eq.mp hp_345 m0
  have hn9 := hnR_le (M := M)
  have ef : f0 = s0.toNat := by omega
  have eo : o0 = s2.toNat + 1 := by omega
  have ew : w0 = s1.toNat := by omega
  subst ef; subst eo; subst ew
  have en : hnR M = s6.toNat := hnR_v (by omega) (by have h : M 61 99 = s6 := m1.2; rw [h]; omega)
  have hd := (hdg_q (T := 1) (n := hnR M) (w := s1.toNat) (o := s2.toNat) (by omega)).2
  have hr : (s5) = ((hdg 1 (hnR M) s1.toNat s2.toNat : Nat) : Int) := by
    rw [hd]
    omega
  refine ⟨Eq.mpr hp_348 ⟨s0.toNat, s2.toNat, s1.toNat, by omega, by rw [hnR_st (by decide)]; omega, by omega, by rw [hnR_st (by decide)]; exact h4, fun i hi hj => ?_, fun a ha => ?_⟩, trivial⟩
  · rw [hnR_st (by decide)] at hj ⊢
    rw [hst_v]
    by_cases e : i = s2.toNat
    · rw [if_pos (by omega), e]
      exact hr
    · rw [if_neg (by omega)]
      exact h5 i (by omega) hj
  · rw [hnR_st (by decide), hmR_st (by omega) (by decide) (by decide)]
    exact (show st M 117 (s2).toNat (s5) 118 a = M 118 a from if_neg (by omega)).trans (h6 a ha)
theorem rul_946 : Rul r_946 := by
  refine ⟨fun h => (by cases h), fun gi gv hg ρ M hm hB hF hG => ?_⟩
  obtain ⟨g1, g2⟩ := List.cons.inj (show ([aI ((0 : Int), ([(2, 1)] : List (Nat × Int))), aI ((0 : Int), ([(5, 1)] : List (Nat × Int)))] : List av) = [.inl gi, .inl gv] from hg)
  obtain ⟨g2, -⟩ := List.cons.inj g2
  cases g1
  cases g2
  have ei : ev ρ ((0 : Int), ([(2, 1)] : List (Nat × Int))) = ((ρ 2)) := by show 0 + (1 * ρ 2 + 0) = _; omega
  have ew : ev ρ ((0 : Int), ([(5, 1)] : List (Nat × Int))) = ((ρ 5)) := by show 0 + (1 * ρ 5 + 0) = _; omega
  rw [show (st M (ctj r_946) (ev ρ ((0 : Int), ([(2, 1)] : List (Nat × Int)))).toNat (ev ρ ((0 : Int), ([(5, 1)] : List (Nat × Int))))) = (st M 117 ((ρ 2)).toNat ((ρ 5))) from by rw [ei, ew]; rfl]
  have H := cr_946 M (ρ 0) (ρ 1) (ρ 2) (ρ 3) (ρ 4) (ρ 5) (ρ 6) (hB _ List.mem_cons_self) (hB _ (List.mem_cons_of_mem _ List.mem_cons_self)) (hB _ (List.mem_cons_of_mem _ (List.mem_cons_of_mem _ List.mem_cons_self))) (hB _ (List.mem_cons_of_mem _ (List.mem_cons_of_mem _ (List.mem_cons_of_mem _ List.mem_cons_self)))) (hB _ (List.mem_cons_of_mem _ (List.mem_cons_of_mem _ (List.mem_cons_of_mem _ (List.mem_cons_of_mem _ List.mem_cons_self))))) (hB _ (List.mem_cons_of_mem _ (List.mem_cons_of_mem _ (List.mem_cons_of_mem _ (List.mem_cons_of_mem _ (List.mem_cons_of_mem _ List.mem_cons_self)))))) (hB _ (List.mem_cons_of_mem _ (List.mem_cons_of_mem _ (List.mem_cons_of_mem _ (List.mem_cons_of_mem _ (List.mem_cons_of_mem _ (List.mem_cons_of_mem _ List.mem_cons_self))))))) (cvp 345 (x' := ((ρ 0) + 1024 * (ρ 1) + 64 * (ρ 2) + 64)) (y' := ((ρ 3))) (by show 64 + (1 * ρ 0 + (1024 * ρ 1 + (64 * ρ 2 + 0))) = _; omega) (by show 0 + (1 * ρ 3 + 0) = _; omega) (hm _ List.mem_cons_self)) (cvm (c := 61) (by decide) (x' := (99 : Int)) (y' := ((ρ 6))) (by show 99 + 0 = _; omega) (by show 0 + (1 * ρ 6 + 0) = _; omega) (hm _ (List.mem_cons_of_mem _ List.mem_cons_self))) (by have h := hF _ List.mem_cons_self; have h : 0 ≤ 0 + ((-1) * ρ 3 + (1 * ρ 4 + (1 * ρ 5 + 0))) := h; omega) (by have h := hF _ (List.mem_cons_of_mem _ List.mem_cons_self); have h : 0 ≤ 0 + (1 * ρ 3 + ((-1) * ρ 4 + ((-1) * ρ 5 + 0))) := h; omega) (by have h := hF _ (List.mem_cons_of_mem _ (List.mem_cons_of_mem _ List.mem_cons_self)); have h : 0 ≤ (-1) + ((-1) * ρ 2 + (1 * ρ 6 + 0)) := h; omega) hG
  obtain ⟨k0, -⟩ := H
  exact ⟨_, List.mem_cons_self, ρ, fun _ _ => rfl, (okM_c (pvp 348 (by show 64 + (1 * ρ 0 + (1024 * ρ 1 + (64 * ρ 2 + 0))) = _; omega) (by show 0 + (1 * ρ 3 + 0) = _; omega) k0) okM_n), okB_n, okF_n⟩
-- lhb_1
theorem cr_947 (M : pM) (s0 s1 s2 s3 s4 s5 : Int) (b0 : 0 ≤ s0 ∧ s0 ≤ 63) (b1 : 0 ≤ s1 ∧ s1 ≤ 19683) (b2 : 0 ≤ s2 ∧ s2 ≤ 8) (b3 : 0 ≤ s3 ∧ s3 ≤ 19683) (b4 : 0 ≤ s4 ∧ s4 ≤ 2) (b5 : (-2147483648) ≤ s5 ∧ s5 ≤ 2147483647) (m0 : HP 348 (s0 + 1024 * s1 + 64 * s2 + 64) (s3) M) (m1 : (0 ≤ (s4) ∧ M 118 (s4).toNat = (s5))) (hG : gI M) : (0 ≤ (s5) ∧ 0 ≤ ((-1) * s5 + 1600000) ∧ True) := by
  obtain ⟨f0, o0, w0, h1, h2, h3, h4, h5, h6⟩ := Eq.mp hp_348 m0
  have hn9 := hnR_le (M := M)
  have ef : f0 = s0.toNat := by omega
  have eo : o0 = s2.toNat := by omega
  have ew : w0 = s1.toNat := by omega
  subst ef; subst eo; subst ew
  have k := hps_d (t := hdg 1 (hnR M) s1.toNat) (a := s4.toNat) (g := s2.toNat + 1) (K := 200000) (hmR_0 hG (f := s0.toNat) (by omega)) (hnR M - (s2.toNat + 1))
  rw [show s2.toNat + 1 + (hnR M - (s2.toNat + 1)) = hnR M by omega] at k
  have k2 := h6 s4.toNat (by omega)
  rw [m1.2] at k2
  exact ⟨by omega, by omega, trivial⟩
theorem rul_947 : Rul r_947 := by
  refine ⟨fun _ ρ M hm hB hF hG => ?_, fun gi gv hg => (by cases hg)⟩
  have H := cr_947 M (ρ 0) (ρ 1) (ρ 2) (ρ 3) (ρ 4) (ρ 5) (hB _ List.mem_cons_self) (hB _ (List.mem_cons_of_mem _ List.mem_cons_self)) (hB _ (List.mem_cons_of_mem _ (List.mem_cons_of_mem _ List.mem_cons_self))) (hB _ (List.mem_cons_of_mem _ (List.mem_cons_of_mem _ (List.mem_cons_of_mem _ List.mem_cons_self)))) (hB _ (List.mem_cons_of_mem _ (List.mem_cons_of_mem _ (List.mem_cons_of_mem _ (List.mem_cons_of_mem _ List.mem_cons_self))))) (hB _ (List.mem_cons_of_mem _ (List.mem_cons_of_mem _ (List.mem_cons_of_mem _ (List.mem_cons_of_mem _ (List.mem_cons_of_mem _ List.mem_cons_self)))))) (cvp 348 (x' := ((ρ 0) + 1024 * (ρ 1) + 64 * (ρ 2) + 64)) (y' := ((ρ 3))) (by show 64 + (1 * ρ 0 + (1024 * ρ 1 + (64 * ρ 2 + 0))) = _; omega) (by show 0 + (1 * ρ 3 + 0) = _; omega) (hm _ List.mem_cons_self)) (cvm (c := 118) (by decide) (x' := ((ρ 4))) (y' := ((ρ 5))) (by show 0 + (1 * ρ 4 + 0) = _; omega) (by show 0 + (1 * ρ 5 + 0) = _; omega) (hm _ (List.mem_cons_of_mem _ List.mem_cons_self))) hG
  obtain ⟨f0, f1, -⟩ := H
  exact ⟨_, List.mem_cons_self, ρ, fun _ _ => rfl, okM_n, okB_n, (okF_c (by show 0 ≤ 0 + (1 * ρ 5 + 0); omega) (okF_c (by show 0 ≤ 1600000 + ((-1) * ρ 5 + 0); omega) okF_n))⟩
-- lhx_1
theorem cr_948 (M : pM) (s0 s1 s2 s3 s4 s5 s6 s7 s8 s9 s10 : Int) (b0 : 0 ≤ s0 ∧ s0 ≤ 63) (b1 : 0 ≤ s1 ∧ s1 ≤ 19683) (b2 : 0 ≤ s2 ∧ s2 ≤ 8) (b3 : 0 ≤ s3 ∧ s3 ≤ 19683) (b4 : (-2147483648) ≤ s4 ∧ s4 ≤ 2147483647) (b5 : 0 ≤ s5 ∧ s5 ≤ 0) (b6 : 0 ≤ s6 ∧ s6 ≤ 2) (b7 : (-2147483648) ≤ s7 ∧ s7 ≤ 2147483647) (b8 : 0 ≤ s8 ∧ s8 ≤ 63) (b9 : 0 ≤ s9 ∧ s9 ≤ 100000) (b10 : 0 ≤ s10 ∧ s10 ≤ 9) (m0 : HP 348 (s0 + 1024 * s1 + 64 * s2 + 64) (s3) M) (m1 : (0 ≤ (s2) ∧ M 117 (s2).toNat = (s6))) (m2 : (0 ≤ (s6) ∧ M 118 (s6).toNat = (s7))) (m3 : (0 ≤ (s2) ∧ M 115 (s2).toNat = (s8))) (m4 : (0 ≤ (64 * s0 + s8) ∧ M 114 (64 * s0 + s8).toNat = (s9))) (m5 : (0 ≤ (99 : Int) ∧ M 61 (99 : Int).toNat = (s10))) (f0 : 0 ≤ ((-1) * s3 + s4 + s5)) (f1 : 0 ≤ (s3 + (-1) * s4 + (-1) * s5)) (f2 : 0 ≤ ((-1) * s2 + s10 - 1)) (hG : gI M) : (HP 345 (s0 + 1024 * s1 + 64 * s2) (s4) (st M 118 (s6).toNat (s7 + 2 * s9)) ∧ True) := by
  obtain ⟨f0, o0, w0, h1, h2, h3, h4, h5, h6⟩ := Eq.mp hp_348 m0
  have hn9 := hnR_le (M := M)
  have ef : f0 = s0.toNat := by omega
  have eo : o0 = s2.toNat := by omega
  have ew : w0 = s1.toNat := by omega
  subst ef; subst eo; subst ew
  have en : hnR M = s10.toNat := hnR_v (by omega) (by have h : M 61 99 = s10 := m5.2; rw [h]; omega)
  have hm := hmR_v (f := s0.toNat) (o := s2.toNat) (c := s8.toNat) (by omega) (by omega) (m3.2.trans (by omega)) (show M 114 (64 * s0.toNat + s8.toNat) = s9 by rw [show 64 * s0.toNat + s8.toNat = (64 * s0 + s8).toNat by omega]; exact m4.2)
  have hr := h5 s2.toNat (Nat.le_refl _) (by omega)
  rw [m1.2] at hr
  obtain ⟨hq, -⟩ := hdg_q (T := 1) (n := hnR M) (w := s1.toNat) (o := s2.toNat) (by omega)
  refine ⟨Eq.mpr hp_345 ⟨s0.toNat, s2.toNat, s1.toNat, by omega, by rw [hnR_st (by decide)]; omega, by omega, by rw [hnR_st (by decide), hq]; omega, fun i hi hj => ?_, fun a ha => ?_⟩, trivial⟩
  · rw [hnR_st (by decide)] at hj ⊢
    exact (show st M 118 (s6).toNat (s7 + 2 * s9) 117 i = M 117 i from if_neg (by omega)).trans (h5 i hi hj)
  · rw [hnR_st (by decide), hmR_st (by omega) (by decide) (by decide), hst_v]
    have k1 := h6 a ha
    have k2 : hps (hmR s0.toNat M) (hdg 1 (hnR M) s1.toNat) a (s2.toNat + 1) = hps (hmR s0.toNat M) (hdg 1 (hnR M) s1.toNat) a s2.toNat + (if hdg 1 (hnR M) s1.toNat s2.toNat = a then hmR s0.toNat M s2.toNat else 0) := rfl
    rw [hm] at k2
    by_cases e : a = s6.toNat
    · rw [if_pos e]
      rw [if_pos (by omega)] at k2
      rw [e, m2.2, ← e] at k1
      omega
    · rw [if_neg e]
      rw [if_neg (by omega)] at k2
      omega
theorem rul_948 : Rul r_948 := by
  refine ⟨fun h => (by cases h), fun gi gv hg ρ M hm hB hF hG => ?_⟩
  obtain ⟨g1, g2⟩ := List.cons.inj (show ([aI ((0 : Int), ([(6, 1)] : List (Nat × Int))), aI ((0 : Int), ([(7, 1), (9, 2)] : List (Nat × Int)))] : List av) = [.inl gi, .inl gv] from hg)
  obtain ⟨g2, -⟩ := List.cons.inj g2
  cases g1
  cases g2
  have ei : ev ρ ((0 : Int), ([(6, 1)] : List (Nat × Int))) = ((ρ 6)) := by show 0 + (1 * ρ 6 + 0) = _; omega
  have ew : ev ρ ((0 : Int), ([(7, 1), (9, 2)] : List (Nat × Int))) = ((ρ 7) + 2 * (ρ 9)) := by show 0 + (1 * ρ 7 + (2 * ρ 9 + 0)) = _; omega
  rw [show (st M (ctj r_948) (ev ρ ((0 : Int), ([(6, 1)] : List (Nat × Int)))).toNat (ev ρ ((0 : Int), ([(7, 1), (9, 2)] : List (Nat × Int))))) = (st M 118 ((ρ 6)).toNat ((ρ 7) + 2 * (ρ 9))) from by rw [ei, ew]; rfl]
  have H := cr_948 M (ρ 0) (ρ 1) (ρ 2) (ρ 3) (ρ 4) (ρ 5) (ρ 6) (ρ 7) (ρ 8) (ρ 9) (ρ 10) (hB _ List.mem_cons_self) (hB _ (List.mem_cons_of_mem _ List.mem_cons_self)) (hB _ (List.mem_cons_of_mem _ (List.mem_cons_of_mem _ List.mem_cons_self))) (hB _ (List.mem_cons_of_mem _ (List.mem_cons_of_mem _ (List.mem_cons_of_mem _ List.mem_cons_self)))) (hB _ (List.mem_cons_of_mem _ (List.mem_cons_of_mem _ (List.mem_cons_of_mem _ (List.mem_cons_of_mem _ List.mem_cons_self))))) (hB _ (List.mem_cons_of_mem _ (List.mem_cons_of_mem _ (List.mem_cons_of_mem _ (List.mem_cons_of_mem _ (List.mem_cons_of_mem _ List.mem_cons_self)))))) (hB _ (List.mem_cons_of_mem _ (List.mem_cons_of_mem _ (List.mem_cons_of_mem _ (List.mem_cons_of_mem _ (List.mem_cons_of_mem _ (List.mem_cons_of_mem _ List.mem_cons_self))))))) (hB _ (List.mem_cons_of_mem _ (List.mem_cons_of_mem _ (List.mem_cons_of_mem _ (List.mem_cons_of_mem _ (List.mem_cons_of_mem _ (List.mem_cons_of_mem _ (List.mem_cons_of_mem _ List.mem_cons_self)))))))) (hB _ (List.mem_cons_of_mem _ (List.mem_cons_of_mem _ (List.mem_cons_of_mem _ (List.mem_cons_of_mem _ (List.mem_cons_of_mem _ (List.mem_cons_of_mem _ (List.mem_cons_of_mem _ (List.mem_cons_of_mem _ List.mem_cons_self))))))))) (hB _ (List.mem_cons_of_mem _ (List.mem_cons_of_mem _ (List.mem_cons_of_mem _ (List.mem_cons_of_mem _ (List.mem_cons_of_mem _ (List.mem_cons_of_mem _ (List.mem_cons_of_mem _ (List.mem_cons_of_mem _ (List.mem_cons_of_mem _ List.mem_cons_self)))))))))) (hB _ (List.mem_cons_of_mem _ (List.mem_cons_of_mem _ (List.mem_cons_of_mem _ (List.mem_cons_of_mem _ (List.mem_cons_of_mem _ (List.mem_cons_of_mem _ (List.mem_cons_of_mem _ (List.mem_cons_of_mem _ (List.mem_cons_of_mem _ (List.mem_cons_of_mem _ List.mem_cons_self))))))))))) (cvp 348 (x' := ((ρ 0) + 1024 * (ρ 1) + 64 * (ρ 2) + 64)) (y' := ((ρ 3))) (by show 64 + (1 * ρ 0 + (1024 * ρ 1 + (64 * ρ 2 + 0))) = _; omega) (by show 0 + (1 * ρ 3 + 0) = _; omega) (hm _ List.mem_cons_self)) (cvm (c := 117) (by decide) (x' := ((ρ 2))) (y' := ((ρ 6))) (by show 0 + (1 * ρ 2 + 0) = _; omega) (by show 0 + (1 * ρ 6 + 0) = _; omega) (hm _ (List.mem_cons_of_mem _ List.mem_cons_self))) (cvm (c := 118) (by decide) (x' := ((ρ 6))) (y' := ((ρ 7))) (by show 0 + (1 * ρ 6 + 0) = _; omega) (by show 0 + (1 * ρ 7 + 0) = _; omega) (hm _ (List.mem_cons_of_mem _ (List.mem_cons_of_mem _ List.mem_cons_self)))) (cvm (c := 115) (by decide) (x' := ((ρ 2))) (y' := ((ρ 8))) (by show 0 + (1 * ρ 2 + 0) = _; omega) (by show 0 + (1 * ρ 8 + 0) = _; omega) (hm _ (List.mem_cons_of_mem _ (List.mem_cons_of_mem _ (List.mem_cons_of_mem _ List.mem_cons_self))))) (cvm (c := 114) (by decide) (x' := (64 * (ρ 0) + (ρ 8))) (y' := ((ρ 9))) (by show 0 + (64 * ρ 0 + (1 * ρ 8 + 0)) = _; omega) (by show 0 + (1 * ρ 9 + 0) = _; omega) (hm _ (List.mem_cons_of_mem _ (List.mem_cons_of_mem _ (List.mem_cons_of_mem _ (List.mem_cons_of_mem _ List.mem_cons_self)))))) (cvm (c := 61) (by decide) (x' := (99 : Int)) (y' := ((ρ 10))) (by show 99 + 0 = _; omega) (by show 0 + (1 * ρ 10 + 0) = _; omega) (hm _ (List.mem_cons_of_mem _ (List.mem_cons_of_mem _ (List.mem_cons_of_mem _ (List.mem_cons_of_mem _ (List.mem_cons_of_mem _ List.mem_cons_self))))))) (by have h := hF _ List.mem_cons_self; have h : 0 ≤ 0 + ((-1) * ρ 3 + (1 * ρ 4 + (1 * ρ 5 + 0))) := h; omega) (by have h := hF _ (List.mem_cons_of_mem _ List.mem_cons_self); have h : 0 ≤ 0 + (1 * ρ 3 + ((-1) * ρ 4 + ((-1) * ρ 5 + 0))) := h; omega) (by have h := hF _ (List.mem_cons_of_mem _ (List.mem_cons_of_mem _ List.mem_cons_self)); have h : 0 ≤ (-1) + ((-1) * ρ 2 + (1 * ρ 10 + 0)) := h; omega) hG
  obtain ⟨k0, -⟩ := H
  exact ⟨_, List.mem_cons_self, ρ, fun _ _ => rfl, (okM_c (pvp 345 (by show 0 + (1 * ρ 0 + (1024 * ρ 1 + (64 * ρ 2 + 0))) = _; omega) (by show 0 + (1 * ρ 4 + 0) = _; omega) k0) okM_n), okB_n, okF_n⟩
-- lhn_1
theorem cr_949 (M : pM) (s0 s1 s2 s3 : Int) (b0 : 0 ≤ s0 ∧ s0 ≤ 63) (b1 : 0 ≤ s1 ∧ s1 ≤ 19683) (b2 : 0 ≤ s2 ∧ s2 ≤ 19683) (b3 : 0 ≤ s3 ∧ s3 ≤ 9) (m0 : HP 345 (s0 + 1024 * s1 + 64 * s3) (s2) M) (f0 : 0 ≤ ((-1) * s3)) (hG : gI M) : (HP 345 (s0 + 1024 * s1) (s2) M ∧ True) := by
  obtain ⟨f0, o0, w0, h1, h2, h3, h4, h5, h6⟩ := Eq.mp hp_345 m0
  exact ⟨Eq.mpr hp_345 ⟨f0, o0, w0, h1, h2, by omega, h4, h5, h6⟩, trivial⟩
theorem rul_949 : Rul r_949 := by
  refine ⟨fun _ ρ M hm hB hF hG => ?_, fun gi gv hg => (by cases hg)⟩
  have H := cr_949 M (ρ 0) (ρ 1) (ρ 2) (ρ 3) (hB _ List.mem_cons_self) (hB _ (List.mem_cons_of_mem _ List.mem_cons_self)) (hB _ (List.mem_cons_of_mem _ (List.mem_cons_of_mem _ List.mem_cons_self))) (hB _ (List.mem_cons_of_mem _ (List.mem_cons_of_mem _ (List.mem_cons_of_mem _ List.mem_cons_self)))) (cvp 345 (x' := ((ρ 0) + 1024 * (ρ 1) + 64 * (ρ 3))) (y' := ((ρ 2))) (by show 0 + (1 * ρ 0 + (1024 * ρ 1 + (64 * ρ 3 + 0))) = _; omega) (by show 0 + (1 * ρ 2 + 0) = _; omega) (hm _ List.mem_cons_self)) (by have h := hF _ List.mem_cons_self; have h : 0 ≤ 0 + ((-1) * ρ 3 + 0) := h; omega) hG
  obtain ⟨k0, -⟩ := H
  exact ⟨_, List.mem_cons_self, ρ, fun _ _ => rfl, (okM_c (pvp 345 (by show 0 + (1 * ρ 0 + (1024 * ρ 1 + 0)) = _; omega) (by show 0 + (1 * ρ 2 + 0) = _; omega) k0) okM_n), okB_n, okF_n⟩
-- lmb_1
theorem cr_950 (M : pM) (s0 s1 s2 s3 s4 : Int) (b0 : 0 ≤ s0 ∧ s0 ≤ 63) (b1 : 0 ≤ s1 ∧ s1 ≤ 19683) (b2 : 0 ≤ s2 ∧ s2 ≤ 19683) (b3 : 0 ≤ s3 ∧ s3 ≤ 2) (b4 : (-2147483648) ≤ s4 ∧ s4 ≤ 2147483647) (m0 : HP 345 (s0 + 1024 * s1) (s2) M) (m1 : (0 ≤ (s3) ∧ M 118 (s3).toNat = (s4))) (hG : gI M) : (0 ≤ (s4) ∧ 0 ≤ ((-1) * s4 + 1800000) ∧ True) := by
  obtain ⟨f0, o0, w0, h1, h2, h3, h4, h5, h6⟩ := Eq.mp hp_345 m0
  have hn9 := hnR_le (M := M)
  have ef : f0 = s0.toNat := by omega
  have eo : o0 = 0 := by omega
  have ew : w0 = s1.toNat := by omega
  subst ef; subst eo; subst ew
  have k := hps_d (t := hdg 1 (hnR M) s1.toNat) (a := s3.toNat) (g := 0) (K := 200000) (hmR_0 hG (f := s0.toNat) (by omega)) (hnR M)
  rw [Nat.zero_add] at k
  have k2 := h6 s3.toNat (by omega)
  rw [m1.2] at k2
  exact ⟨by omega, by omega, trivial⟩
theorem rul_950 : Rul r_950 := by
  refine ⟨fun _ ρ M hm hB hF hG => ?_, fun gi gv hg => (by cases hg)⟩
  have H := cr_950 M (ρ 0) (ρ 1) (ρ 2) (ρ 3) (ρ 4) (hB _ List.mem_cons_self) (hB _ (List.mem_cons_of_mem _ List.mem_cons_self)) (hB _ (List.mem_cons_of_mem _ (List.mem_cons_of_mem _ List.mem_cons_self))) (hB _ (List.mem_cons_of_mem _ (List.mem_cons_of_mem _ (List.mem_cons_of_mem _ List.mem_cons_self)))) (hB _ (List.mem_cons_of_mem _ (List.mem_cons_of_mem _ (List.mem_cons_of_mem _ (List.mem_cons_of_mem _ List.mem_cons_self))))) (cvp 345 (x' := ((ρ 0) + 1024 * (ρ 1))) (y' := ((ρ 2))) (by show 0 + (1 * ρ 0 + (1024 * ρ 1 + 0)) = _; omega) (by show 0 + (1 * ρ 2 + 0) = _; omega) (hm _ List.mem_cons_self)) (cvm (c := 118) (by decide) (x' := ((ρ 3))) (y' := ((ρ 4))) (by show 0 + (1 * ρ 3 + 0) = _; omega) (by show 0 + (1 * ρ 4 + 0) = _; omega) (hm _ (List.mem_cons_of_mem _ List.mem_cons_self))) hG
  obtain ⟨f0, f1, -⟩ := H
  exact ⟨_, List.mem_cons_self, ρ, fun _ _ => rfl, okM_n, okB_n, (okF_c (by show 0 ≤ 0 + (1 * ρ 4 + 0); omega) (okF_c (by show 0 ≤ 1800000 + ((-1) * ρ 4 + 0); omega) okF_n))⟩
-- lce_1
theorem cr_951 (M : pM) (s0 s1 s2 s3 s4 : Int) (b0 : 0 ≤ s0 ∧ s0 ≤ 63) (b1 : 0 ≤ s1 ∧ s1 ≤ 19683) (b2 : 0 ≤ s2 ∧ s2 ≤ 19683) (b3 : 0 ≤ s3 ∧ s3 ≤ 3) (b4 : 0 ≤ s4 ∧ s4 ≤ 1800000) (m0 : HP 345 (s0 + 1024 * s1) (s2) M) (m1 : HP 354 (s3) (s4) M) (f0 : 0 ≤ (s3 - 3)) (hG : gI M) : (HP 351 (s0 + 64 * s1) (s4) M ∧ True) := by
  obtain ⟨f0, o0, w0, h1, h2, h3, h4, h5, h6⟩ := Eq.mp hp_345 m0
  have hn9 := hnR_le (M := M)
  have ef : f0 = s0.toNat := by omega
  have eo : o0 = 0 := by omega
  have ew : w0 = s1.toNat := by omega
  subst ef; subst eo; subst ew
  obtain ⟨r1, r2, r3, r4⟩ := Eq.mp hp_354 m1
  have h6 : ∀ a : Nat, a < 3 → M 118 a = hps (hmR s0.toNat M) (hdg 1 (hnR M) s1.toNat) a (hnR M) := fun a ha => by
    have h := h6 a ha
    have e : hps (hmR s0.toNat M) (hdg 1 (hnR M) s1.toNat) a 0 = 0 := rfl
    omega
  exact ⟨Eq.mpr hp_351 ⟨s0.toNat, s1.toNat, by omega, by omega, fun i hi => h5 i (Nat.zero_le i) hi, hco_eq (fun a ha => by rw [← h6 a ha]; exact r3 a (by omega)) (by
      rcases r4 with r4 | ⟨a, a1, a2⟩
      · refine ⟨0, by decide, ?_⟩
        have k1 := hps_d (t := hdg 1 (hnR M) s1.toNat) (a := 0) (g := 0) (K := 200000) (hmR_0 hG (f := s0.toNat) (by omega)) (hnR M)
        rw [Nat.zero_add] at k1
        have k2 := r3 0 (by omega)
        rw [h6 0 (by decide)] at k2
        have e : hps (hmR s0.toNat M) (hdg 1 (hnR M) s1.toNat) 0 0 = 0 := rfl
        omega
      · exact ⟨a, by omega, by rw [← h6 a (by omega)]; exact a2⟩)⟩, trivial⟩
theorem rul_951 : Rul r_951 := by
  refine ⟨fun _ ρ M hm hB hF hG => ?_, fun gi gv hg => (by cases hg)⟩
  have H := cr_951 M (ρ 0) (ρ 1) (ρ 2) (ρ 3) (ρ 4) (hB _ List.mem_cons_self) (hB _ (List.mem_cons_of_mem _ List.mem_cons_self)) (hB _ (List.mem_cons_of_mem _ (List.mem_cons_of_mem _ List.mem_cons_self))) (hB _ (List.mem_cons_of_mem _ (List.mem_cons_of_mem _ (List.mem_cons_of_mem _ List.mem_cons_self)))) (hB _ (List.mem_cons_of_mem _ (List.mem_cons_of_mem _ (List.mem_cons_of_mem _ (List.mem_cons_of_mem _ List.mem_cons_self))))) (cvp 345 (x' := ((ρ 0) + 1024 * (ρ 1))) (y' := ((ρ 2))) (by show 0 + (1 * ρ 0 + (1024 * ρ 1 + 0)) = _; omega) (by show 0 + (1 * ρ 2 + 0) = _; omega) (hm _ List.mem_cons_self)) (cvp 354 (x' := ((ρ 3))) (y' := ((ρ 4))) (by show 0 + (1 * ρ 3 + 0) = _; omega) (by show 0 + (1 * ρ 4 + 0) = _; omega) (hm _ (List.mem_cons_of_mem _ List.mem_cons_self))) (by have h := hF _ List.mem_cons_self; have h : 0 ≤ (-3) + (1 * ρ 3 + 0) := h; omega) hG
  obtain ⟨k0, -⟩ := H
  exact ⟨_, List.mem_cons_self, ρ, fun _ _ => rfl, (okM_c (pvp 351 (by show 0 + (1 * ρ 0 + (64 * ρ 1 + 0)) = _; omega) (by show 0 + (1 * ρ 4 + 0) = _; omega) k0) okM_n), okB_n, okF_n⟩
-- pw0_1
theorem cr_952 (M : pM)  (hG : gI M) : (HP 355 (0 : Int) (1 : Int) M ∧ True) := by
  exact ⟨Eq.mpr hp_355 ⟨0, by decide, by omega, rfl⟩, trivial⟩
theorem rul_952 : Rul r_952 := by
  refine ⟨fun _ ρ M hm hB hF hG => ?_, fun gi gv hg => (by cases hg)⟩
  have H := cr_952 M hG
  obtain ⟨k0, -⟩ := H
  exact ⟨_, List.mem_cons_self, ρ, fun _ _ => rfl, (okM_c (pvp 355 (by show 0 + 0 = _; omega) (by show 1 + 0 = _; omega) k0) okM_n), okB_n, okF_n⟩
-- pwn_1
theorem cr_953 (M : pM) (s0 s1 : Int) (b0 : 0 ≤ s0 ∧ s0 ≤ 8) (b1 : (-2147483648) ≤ s1 ∧ s1 ≤ 2147483647) (m0 : HP 355 (s0) (s1) M) (hG : gI M) : (HP 355 (s0 + 1) (s1) M ∧ 0 ≤ (s1 - 1) ∧ 0 ≤ ((-1) * s1 + 1) ∧ True) := by
  obtain ⟨k0, p1, p2, p3⟩ := Eq.mp hp_355 m0
  have ek : k0 = s0.toNat := by omega
  subst ek
  have q1 : 1 ^ 0 ≤ 1 ^ s0.toNat := Nat.pow_le_pow_right (by decide) (Nat.zero_le _)
  rw [Nat.pow_zero] at q1
  have q2 : 1 ^ s0.toNat ≤ 1 ^ 8 := Nat.pow_le_pow_right (by decide) (by omega)
  rw [show 1 ^ 8 = 1 by decide] at q2
  exact ⟨Eq.mpr hp_355 ⟨s0.toNat + 1, by omega, by omega, by rw [Nat.pow_succ]; omega⟩, by omega, by omega, trivial⟩
theorem rul_953 : Rul r_953 := by
  refine ⟨fun _ ρ M hm hB hF hG => ?_, fun gi gv hg => (by cases hg)⟩
  have H := cr_953 M (ρ 0) (ρ 1) (hB _ List.mem_cons_self) (hB _ (List.mem_cons_of_mem _ List.mem_cons_self)) (cvp 355 (x' := ((ρ 0))) (y' := ((ρ 1))) (by show 0 + (1 * ρ 0 + 0) = _; omega) (by show 0 + (1 * ρ 1 + 0) = _; omega) (hm _ List.mem_cons_self)) hG
  obtain ⟨k0, f0, f1, -⟩ := H
  exact ⟨_, List.mem_cons_self, ρ, fun _ _ => rfl, (okM_c (pvp 355 (by show 1 + (1 * ρ 0 + 0) = _; omega) (by show 0 + (1 * ρ 1 + 0) = _; omega) k0) okM_n), okB_n, (okF_c (by show 0 ≤ (-1) + (1 * ρ 1 + 0); omega) (okF_c (by show 0 ≤ 1 + ((-1) * ρ 1 + 0); omega) okF_n))⟩
-- pwb_1
theorem cr_954 (M : pM) (s0 s1 : Int) (b0 : 0 ≤ s0 ∧ s0 ≤ 9) (b1 : (-2147483648) ≤ s1 ∧ s1 ≤ 2147483647) (m0 : HP 355 (s0) (s1) M) (hG : gI M) : (0 ≤ (s1 - 1) ∧ 0 ≤ ((-1) * s1 + 1) ∧ True) := by
  obtain ⟨k0, p1, p2, p3⟩ := Eq.mp hp_355 m0
  have ek : k0 = s0.toNat := by omega
  subst ek
  have q1 : 1 ^ 0 ≤ 1 ^ s0.toNat := Nat.pow_le_pow_right (by decide) (Nat.zero_le _)
  rw [Nat.pow_zero] at q1
  have q2 : 1 ^ s0.toNat ≤ 1 ^ 9 := Nat.pow_le_pow_right (by decide) (by omega)
  rw [show 1 ^ 9 = 1 by decide] at q2
  exact ⟨by omega, by omega, trivial⟩
theorem rul_954 : Rul r_954 := by
  refine ⟨fun _ ρ M hm hB hF hG => ?_, fun gi gv hg => (by cases hg)⟩
  have H := cr_954 M (ρ 0) (ρ 1) (hB _ List.mem_cons_self) (hB _ (List.mem_cons_of_mem _ List.mem_cons_self)) (cvp 355 (x' := ((ρ 0))) (y' := ((ρ 1))) (by show 0 + (1 * ρ 0 + 0) = _; omega) (by show 0 + (1 * ρ 1 + 0) = _; omega) (hm _ List.mem_cons_self)) hG
  obtain ⟨f0, f1, -⟩ := H
  exact ⟨_, List.mem_cons_self, ρ, fun _ _ => rfl, okM_n, okB_n, (okF_c (by show 0 ≤ (-1) + (1 * ρ 1 + 0); omega) (okF_c (by show 0 ≤ 1 + ((-1) * ρ 1 + 0); omega) okF_n))⟩
-- pwx_1
theorem cr_955 (M : pM) (s0 s1 s2 : Int) (b0 : 0 ≤ s0 ∧ s0 ≤ 9) (b1 : (-2147483648) ≤ s1 ∧ s1 ≤ 2147483647) (b2 : 0 ≤ s2 ∧ s2 ≤ 9) (m0 : HP 355 (s0) (s1) M) (m1 : (0 ≤ (99 : Int) ∧ M 61 (99 : Int).toNat = (s2))) (f0 : 0 ≤ (s0 + (-1) * s2)) (f1 : 0 ≤ ((-1) * s0 + s2)) (hG : gI M) : (HP 355 (s2) (s1) M ∧ True) := by
  obtain ⟨k0, p1, p2, p3⟩ := Eq.mp hp_355 m0
  exact ⟨Eq.mpr hp_355 ⟨k0, p1, by omega, p3⟩, trivial⟩
theorem rul_955 : Rul r_955 := by
  refine ⟨fun _ ρ M hm hB hF hG => ?_, fun gi gv hg => (by cases hg)⟩
  have H := cr_955 M (ρ 0) (ρ 1) (ρ 2) (hB _ List.mem_cons_self) (hB _ (List.mem_cons_of_mem _ List.mem_cons_self)) (hB _ (List.mem_cons_of_mem _ (List.mem_cons_of_mem _ List.mem_cons_self))) (cvp 355 (x' := ((ρ 0))) (y' := ((ρ 1))) (by show 0 + (1 * ρ 0 + 0) = _; omega) (by show 0 + (1 * ρ 1 + 0) = _; omega) (hm _ List.mem_cons_self)) (cvm (c := 61) (by decide) (x' := (99 : Int)) (y' := ((ρ 2))) (by show 99 + 0 = _; omega) (by show 0 + (1 * ρ 2 + 0) = _; omega) (hm _ (List.mem_cons_of_mem _ List.mem_cons_self))) (by have h := hF _ List.mem_cons_self; have h : 0 ≤ 0 + (1 * ρ 0 + ((-1) * ρ 2 + 0)) := h; omega) (by have h := hF _ (List.mem_cons_of_mem _ List.mem_cons_self); have h : 0 ≤ 0 + ((-1) * ρ 0 + (1 * ρ 2 + 0)) := h; omega) hG
  obtain ⟨k0, -⟩ := H
  exact ⟨_, List.mem_cons_self, ρ, fun _ _ => rfl, (okM_c (pvp 355 (by show 0 + (1 * ρ 2 + 0) = _; omega) (by show 0 + (1 * ρ 1 + 0) = _; omega) k0) okM_n), okB_n, okF_n⟩
-- sw0_1
theorem cr_956 (M : pM) (s0 : Int) (b0 : 0 ≤ s0 ∧ s0 ≤ 63) (hG : gI M) : (HP 359 (s0) (100000 : Int) M ∧ True) := by
  exact ⟨Eq.mpr hp_359 ⟨s0.toNat, 0, by omega, by omega, fun t _ hs => absurd hs (Nat.not_lt_zero _), Or.inl rfl⟩, trivial⟩
theorem rul_956 : Rul r_956 := by
  refine ⟨fun _ ρ M hm hB hF hG => ?_, fun gi gv hg => (by cases hg)⟩
  have H := cr_956 M (ρ 0) (hB _ List.mem_cons_self) hG
  obtain ⟨k0, -⟩ := H
  exact ⟨_, List.mem_cons_self, ρ, fun _ _ => rfl, (okM_c (pvp 359 (by show 0 + (1 * ρ 0 + 0) = _; omega) (by show 100000 + 0 = _; omega) k0) okM_n), okB_n, okF_n⟩
-- swk_1
theorem cr_957 (M : pM) (s0 s1 s2 s3 : Int) (b0 : 0 ≤ s0 ∧ s0 ≤ 63) (b1 : 0 ≤ s1 ∧ s1 ≤ 19683) (b2 : 0 ≤ s2 ∧ s2 ≤ 100000) (b3 : 0 ≤ s3 ∧ s3 ≤ 1800000) (m0 : HP 359 (s0 + 64 * s1) (s2) M) (m1 : HP 351 (s0 + 64 * s1) (s3) M) (f0 : 0 ≤ ((-1) * s2 + s3)) (hG : gI M) : (HP 359 (s0 + 64 * s1 + 64) (s2) M ∧ True) := by
  obtain ⟨f0, w0, h1, h2, h3⟩ := Eq.mp hp_359 m0
  have ef : f0 = s0.toNat := by omega
  have ew : w0 = s1.toNat := by omega
  subst ef; subst ew
  obtain ⟨f9, w9, l1, l2, l3, l4⟩ := Eq.mp hp_351 m1
  have ef9 : f9 = s0.toNat := by omega
  have ew9 : w9 = s1.toNat := by omega
  subst ef9; subst ew9
  exact ⟨Eq.mpr hp_359 ⟨s0.toNat, s1.toNat + 1, by omega, by omega, by
      by_cases hw : s1.toNat < 1 ^ hnR M
      · exact sw_k (by decide) hw h3 l4 (by omega)
      · exact hbs_s h3 (fun t ht hs hn => by
          have := hnu_lt _ ht
          have hn : ¬ hnu 1 t (hnR M) < s1.toNat := hn
          omega) (fun hs => by
          have hs : hnu 1 _ (hnR M) < s1.toNat := hs
          show hnu 1 _ (hnR M) < s1.toNat + 1
          omega)⟩, trivial⟩
theorem rul_957 : Rul r_957 := by
  refine ⟨fun _ ρ M hm hB hF hG => ?_, fun gi gv hg => (by cases hg)⟩
  have H := cr_957 M (ρ 0) (ρ 1) (ρ 2) (ρ 3) (hB _ List.mem_cons_self) (hB _ (List.mem_cons_of_mem _ List.mem_cons_self)) (hB _ (List.mem_cons_of_mem _ (List.mem_cons_of_mem _ List.mem_cons_self))) (hB _ (List.mem_cons_of_mem _ (List.mem_cons_of_mem _ (List.mem_cons_of_mem _ List.mem_cons_self)))) (cvp 359 (x' := ((ρ 0) + 64 * (ρ 1))) (y' := ((ρ 2))) (by show 0 + (1 * ρ 0 + (64 * ρ 1 + 0)) = _; omega) (by show 0 + (1 * ρ 2 + 0) = _; omega) (hm _ List.mem_cons_self)) (cvp 351 (x' := ((ρ 0) + 64 * (ρ 1))) (y' := ((ρ 3))) (by show 0 + (1 * ρ 0 + (64 * ρ 1 + 0)) = _; omega) (by show 0 + (1 * ρ 3 + 0) = _; omega) (hm _ (List.mem_cons_of_mem _ List.mem_cons_self))) (by have h := hF _ List.mem_cons_self; have h : 0 ≤ 0 + ((-1) * ρ 2 + (1 * ρ 3 + 0)) := h; omega) hG
  obtain ⟨k0, -⟩ := H
  exact ⟨_, List.mem_cons_self, ρ, fun _ _ => rfl, (okM_c (pvp 359 (by show 64 + (1 * ρ 0 + (64 * ρ 1 + 0)) = _; omega) (by show 0 + (1 * ρ 2 + 0) = _; omega) k0) okM_n), okB_n, okF_n⟩
-- swc_1
theorem cr_958 (M : pM) (s0 s1 s2 s3 s4 s5 s6 : Int) (b0 : 0 ≤ s0 ∧ s0 ≤ 63) (b1 : 0 ≤ s1 ∧ s1 ≤ 19683) (b2 : 0 ≤ s2 ∧ s2 ≤ 100000) (b3 : 0 ≤ s3 ∧ s3 ≤ 1800000) (b4 : (-2147483648) ≤ s4 ∧ s4 ≤ 2147483647) (b5 : 0 ≤ s5 ∧ s5 ≤ 9) (b6 : 0 ≤ s6 ∧ s6 ≤ 9) (m0 : HP 359 (s0 + 64 * s1) (s2) M) (m1 : HP 351 (s0 + 64 * s1) (s3) M) (m2 : HP 355 (s5) (s4) M) (m3 : (0 ≤ (99 : Int) ∧ M 61 (99 : Int).toNat = (s6))) (f0 : 0 ≤ (s2 + (-1) * s3 - 1)) (f1 : 0 ≤ ((-1) * s1 + s4 - 1)) (f2 : 0 ≤ (s5 + (-1) * s6)) (f3 : 0 ≤ ((-1) * s5 + s6)) (hG : gI M) : (HP 368 (s0 + 64 * s1) (s3) M ∧ True) := by
  obtain ⟨f0, w0, h1, h2, h3⟩ := Eq.mp hp_359 m0
  have ef : f0 = s0.toNat := by omega
  have ew : w0 = s1.toNat := by omega
  subst ef; subst ew
  obtain ⟨f9, w9, l1, l2, l3, l4⟩ := Eq.mp hp_351 m1
  have ef9 : f9 = s0.toNat := by omega
  have ew9 : w9 = s1.toNat := by omega
  subst ef9; subst ew9
  have en : hnR M = s6.toNat := hnR_v (by omega) (by have h : M 61 99 = s6 := m3.2; rw [h]; omega)
  obtain ⟨k0, p1, p2, p3⟩ := Eq.mp hp_355 m2
  have ek : k0 = s5.toNat := by omega
  subst ek
  have q1 : 1 ^ 0 ≤ 1 ^ s5.toNat := Nat.pow_le_pow_right (by decide) (Nat.zero_le _)
  rw [Nat.pow_zero] at q1
  exact ⟨Eq.mpr hp_368 ⟨s0.toNat, s1.toNat, by omega, by omega, by rw [en, show s6.toNat = s5.toNat by omega]; omega, l3, l4, sw_x h3 (by omega)⟩, trivial⟩
theorem rul_958 : Rul r_958 := by
  refine ⟨fun _ ρ M hm hB hF hG => ?_, fun gi gv hg => (by cases hg)⟩
  have H := cr_958 M (ρ 0) (ρ 1) (ρ 2) (ρ 3) (ρ 4) (ρ 5) (ρ 6) (hB _ List.mem_cons_self) (hB _ (List.mem_cons_of_mem _ List.mem_cons_self)) (hB _ (List.mem_cons_of_mem _ (List.mem_cons_of_mem _ List.mem_cons_self))) (hB _ (List.mem_cons_of_mem _ (List.mem_cons_of_mem _ (List.mem_cons_of_mem _ List.mem_cons_self)))) (hB _ (List.mem_cons_of_mem _ (List.mem_cons_of_mem _ (List.mem_cons_of_mem _ (List.mem_cons_of_mem _ List.mem_cons_self))))) (hB _ (List.mem_cons_of_mem _ (List.mem_cons_of_mem _ (List.mem_cons_of_mem _ (List.mem_cons_of_mem _ (List.mem_cons_of_mem _ List.mem_cons_self)))))) (hB _ (List.mem_cons_of_mem _ (List.mem_cons_of_mem _ (List.mem_cons_of_mem _ (List.mem_cons_of_mem _ (List.mem_cons_of_mem _ (List.mem_cons_of_mem _ List.mem_cons_self))))))) (cvp 359 (x' := ((ρ 0) + 64 * (ρ 1))) (y' := ((ρ 2))) (by show 0 + (1 * ρ 0 + (64 * ρ 1 + 0)) = _; omega) (by show 0 + (1 * ρ 2 + 0) = _; omega) (hm _ List.mem_cons_self)) (cvp 351 (x' := ((ρ 0) + 64 * (ρ 1))) (y' := ((ρ 3))) (by show 0 + (1 * ρ 0 + (64 * ρ 1 + 0)) = _; omega) (by show 0 + (1 * ρ 3 + 0) = _; omega) (hm _ (List.mem_cons_of_mem _ List.mem_cons_self))) (cvp 355 (x' := ((ρ 5))) (y' := ((ρ 4))) (by show 0 + (1 * ρ 5 + 0) = _; omega) (by show 0 + (1 * ρ 4 + 0) = _; omega) (hm _ (List.mem_cons_of_mem _ (List.mem_cons_of_mem _ List.mem_cons_self)))) (cvm (c := 61) (by decide) (x' := (99 : Int)) (y' := ((ρ 6))) (by show 99 + 0 = _; omega) (by show 0 + (1 * ρ 6 + 0) = _; omega) (hm _ (List.mem_cons_of_mem _ (List.mem_cons_of_mem _ (List.mem_cons_of_mem _ List.mem_cons_self))))) (by have h := hF _ List.mem_cons_self; have h : 0 ≤ (-1) + (1 * ρ 2 + ((-1) * ρ 3 + 0)) := h; omega) (by have h := hF _ (List.mem_cons_of_mem _ List.mem_cons_self); have h : 0 ≤ (-1) + ((-1) * ρ 1 + (1 * ρ 4 + 0)) := h; omega) (by have h := hF _ (List.mem_cons_of_mem _ (List.mem_cons_of_mem _ List.mem_cons_self)); have h : 0 ≤ 0 + (1 * ρ 5 + ((-1) * ρ 6 + 0)) := h; omega) (by have h := hF _ (List.mem_cons_of_mem _ (List.mem_cons_of_mem _ (List.mem_cons_of_mem _ List.mem_cons_self))); have h : 0 ≤ 0 + ((-1) * ρ 5 + (1 * ρ 6 + 0)) := h; omega) hG
  obtain ⟨k0, -⟩ := H
  exact ⟨_, List.mem_cons_self, ρ, fun _ _ => rfl, (okM_c (pvp 368 (by show 0 + (1 * ρ 0 + (64 * ρ 1 + 0)) = _; omega) (by show 0 + (1 * ρ 3 + 0) = _; omega) k0) okM_n), okB_n, okF_n⟩
-- swe_1
theorem cr_959 (M : pM) (s0 s1 s2 s3 s4 : Int) (b0 : 0 ≤ s0 ∧ s0 ≤ 63) (b1 : 0 ≤ s1 ∧ s1 ≤ 19683) (b2 : 0 ≤ s2 ∧ s2 ≤ 100000) (b3 : 0 ≤ s3 ∧ s3 ≤ 9) (b4 : 0 ≤ s4 ∧ s4 ≤ 9) (m0 : HP 368 (s0 + 64 * s1) (s2) M) (m1 : HP 371 (s3) (0 : Int) M) (m2 : (0 ≤ (99 : Int) ∧ M 61 (99 : Int).toNat = (s4))) (f0 : 0 ≤ (s3 + (-1) * s4)) (hG : gI M) : (HP 359 (s0 + 64 * s1 + 64) (s2) M ∧ True) := by
  obtain ⟨f0, w0, h1, h2, h3, h4, h5, h6⟩ := Eq.mp hp_368 m0
  have ef : f0 = s0.toNat := by omega
  have ew : w0 = s1.toNat := by omega
  subst ef; subst ew
  obtain ⟨c1, c2⟩ := Eq.mp hp_371 m1
  have en : hnR M = s4.toNat := hnR_v (by omega) (by have h : M 61 99 = s4 := m2.2; rw [h]; omega)
  exact ⟨Eq.mpr hp_359 ⟨s0.toNat, s1.toNat + 1, by omega, by omega, sw_e (by decide) h3 h5 h6 (fun o ho => hrow_v (by have := hnR_le (M := M); omega) ((c2 o (by rw [en] at ho; omega)).trans (h4 o ho)))⟩, trivial⟩
theorem rul_959 : Rul r_959 := by
  refine ⟨fun _ ρ M hm hB hF hG => ?_, fun gi gv hg => (by cases hg)⟩
  have H := cr_959 M (ρ 0) (ρ 1) (ρ 2) (ρ 3) (ρ 4) (hB _ List.mem_cons_self) (hB _ (List.mem_cons_of_mem _ List.mem_cons_self)) (hB _ (List.mem_cons_of_mem _ (List.mem_cons_of_mem _ List.mem_cons_self))) (hB _ (List.mem_cons_of_mem _ (List.mem_cons_of_mem _ (List.mem_cons_of_mem _ List.mem_cons_self)))) (hB _ (List.mem_cons_of_mem _ (List.mem_cons_of_mem _ (List.mem_cons_of_mem _ (List.mem_cons_of_mem _ List.mem_cons_self))))) (cvp 368 (x' := ((ρ 0) + 64 * (ρ 1))) (y' := ((ρ 2))) (by show 0 + (1 * ρ 0 + (64 * ρ 1 + 0)) = _; omega) (by show 0 + (1 * ρ 2 + 0) = _; omega) (hm _ List.mem_cons_self)) (cvp 371 (x' := ((ρ 3))) (y' := (0 : Int)) (by show 0 + (1 * ρ 3 + 0) = _; omega) (by show 0 + 0 = _; omega) (hm _ (List.mem_cons_of_mem _ List.mem_cons_self))) (cvm (c := 61) (by decide) (x' := (99 : Int)) (y' := ((ρ 4))) (by show 99 + 0 = _; omega) (by show 0 + (1 * ρ 4 + 0) = _; omega) (hm _ (List.mem_cons_of_mem _ (List.mem_cons_of_mem _ List.mem_cons_self)))) (by have h := hF _ List.mem_cons_self; have h : 0 ≤ 0 + (1 * ρ 3 + ((-1) * ρ 4 + 0)) := h; omega) hG
  obtain ⟨k0, -⟩ := H
  exact ⟨_, List.mem_cons_self, ρ, fun _ _ => rfl, (okM_c (pvp 359 (by show 64 + (1 * ρ 0 + (64 * ρ 1 + 0)) = _; omega) (by show 0 + (1 * ρ 2 + 0) = _; omega) k0) okM_n), okB_n, okF_n⟩
-- swf_1
theorem cr_960 (M : pM) (s0 s1 s2 s3 s4 s5 s6 : Int) (b0 : 0 ≤ s0 ∧ s0 ≤ 63) (b1 : 0 ≤ s1 ∧ s1 ≤ 19683) (b2 : 0 ≤ s2 ∧ s2 ≤ 100000) (b3 : (-2147483648) ≤ s3 ∧ s3 ≤ 2147483647) (b4 : 1 ≤ s4 ∧ s4 ≤ 3) (b5 : 0 ≤ s5 ∧ s5 ≤ 9) (b6 : 0 ≤ s6 ∧ s6 ≤ 9) (m0 : HP 359 (s0 + 64 * s1) (s2) M) (m1 : HP 355 (s5) (s3) M) (m2 : HP 358 (s0 + 64 * s5) (0 : Int) M) (m3 : (0 ≤ (99 : Int) ∧ M 61 (99 : Int).toNat = (s6))) (f0 : 0 ≤ (s1 + (-1) * s3)) (f1 : 0 ≤ (s5 + (-1) * s6)) (f2 : 0 ≤ ((-1) * s5 + s6)) (f3 : 0 ≤ ((-1) * s4 + 1)) (f4 : 0 ≤ (s4 - 1)) (hG : gI M) : (HP 372 (s0 + 64 * s4) (s2) M ∧ HP 358 (s0 + 64 * s6) (0 : Int) M ∧ 0 ≤ ((-1) * s2 + 35640) ∧ True) := by
  obtain ⟨f0, w0, h1, h2, h3⟩ := Eq.mp hp_359 m0
  have ef : f0 = s0.toNat := by omega
  have ew : w0 = s1.toNat := by omega
  subst ef; subst ew
  have en : hnR M = s6.toNat := hnR_v (by omega) (by have h : M 61 99 = s6 := m3.2; rw [h]; omega)
  obtain ⟨k0, p1, p2, p3⟩ := Eq.mp hp_355 m1
  have ek : k0 = s5.toNat := by omega
  subst ek
  have q1 : 1 ^ 0 ≤ 1 ^ s5.toNat := Nat.pow_le_pow_right (by decide) (Nat.zero_le _)
  rw [Nat.pow_zero] at q1
  obtain ⟨f8, n8, g1, g2, g3, hr⟩ := Eq.mp hp_358 m2
  have ef8 : f8 = s0.toNat := by omega
  have en8 : n8 = s5.toNat := by omega
  subst ef8; subst en8
  have k := hj_fin (by decide) (by decide) (by rw [en]; omega) (fun o ho => hr o (by rw [en] at ho; omega)) (fun t ht => by
      have := hnu_lt _ ht
      show hnu 1 t (hnR M) < s1.toNat
      rw [en, show s6.toNat = s5.toNat by omega] at this
      rw [en, show s6.toNat = s5.toNat by omega]
      omega) h3
  exact ⟨Eq.mpr hp_372 ⟨s0.toNat, 1, by omega, by decide, by decide, by omega, k.2.1, k.2.2.1, k.2.2.2.1, k.2.2.2.2⟩, Eq.mpr hp_358 ⟨s0.toNat, s5.toNat, by omega, by omega, by omega, hr⟩, by omega, trivial⟩
theorem rul_960 : Rul r_960 := by
  refine ⟨fun _ ρ M hm hB hF hG => ?_, fun gi gv hg => (by cases hg)⟩
  have H := cr_960 M (ρ 0) (ρ 1) (ρ 2) (ρ 3) (ρ 4) (ρ 5) (ρ 6) (hB _ List.mem_cons_self) (hB _ (List.mem_cons_of_mem _ List.mem_cons_self)) (hB _ (List.mem_cons_of_mem _ (List.mem_cons_of_mem _ List.mem_cons_self))) (hB _ (List.mem_cons_of_mem _ (List.mem_cons_of_mem _ (List.mem_cons_of_mem _ List.mem_cons_self)))) (hB _ (List.mem_cons_of_mem _ (List.mem_cons_of_mem _ (List.mem_cons_of_mem _ (List.mem_cons_of_mem _ List.mem_cons_self))))) (hB _ (List.mem_cons_of_mem _ (List.mem_cons_of_mem _ (List.mem_cons_of_mem _ (List.mem_cons_of_mem _ (List.mem_cons_of_mem _ List.mem_cons_self)))))) (hB _ (List.mem_cons_of_mem _ (List.mem_cons_of_mem _ (List.mem_cons_of_mem _ (List.mem_cons_of_mem _ (List.mem_cons_of_mem _ (List.mem_cons_of_mem _ List.mem_cons_self))))))) (cvp 359 (x' := ((ρ 0) + 64 * (ρ 1))) (y' := ((ρ 2))) (by show 0 + (1 * ρ 0 + (64 * ρ 1 + 0)) = _; omega) (by show 0 + (1 * ρ 2 + 0) = _; omega) (hm _ List.mem_cons_self)) (cvp 355 (x' := ((ρ 5))) (y' := ((ρ 3))) (by show 0 + (1 * ρ 5 + 0) = _; omega) (by show 0 + (1 * ρ 3 + 0) = _; omega) (hm _ (List.mem_cons_of_mem _ List.mem_cons_self))) (cvp 358 (x' := ((ρ 0) + 64 * (ρ 5))) (y' := (0 : Int)) (by show 0 + (1 * ρ 0 + (64 * ρ 5 + 0)) = _; omega) (by show 0 + 0 = _; omega) (hm _ (List.mem_cons_of_mem _ (List.mem_cons_of_mem _ List.mem_cons_self)))) (cvm (c := 61) (by decide) (x' := (99 : Int)) (y' := ((ρ 6))) (by show 99 + 0 = _; omega) (by show 0 + (1 * ρ 6 + 0) = _; omega) (hm _ (List.mem_cons_of_mem _ (List.mem_cons_of_mem _ (List.mem_cons_of_mem _ List.mem_cons_self))))) (by have h := hF _ List.mem_cons_self; have h : 0 ≤ 0 + (1 * ρ 1 + ((-1) * ρ 3 + 0)) := h; omega) (by have h := hF _ (List.mem_cons_of_mem _ List.mem_cons_self); have h : 0 ≤ 0 + (1 * ρ 5 + ((-1) * ρ 6 + 0)) := h; omega) (by have h := hF _ (List.mem_cons_of_mem _ (List.mem_cons_of_mem _ List.mem_cons_self)); have h : 0 ≤ 0 + ((-1) * ρ 5 + (1 * ρ 6 + 0)) := h; omega) (by have h := hF _ (List.mem_cons_of_mem _ (List.mem_cons_of_mem _ (List.mem_cons_of_mem _ List.mem_cons_self))); have h : 0 ≤ 1 + ((-1) * ρ 4 + 0) := h; omega) (by have h := hF _ (List.mem_cons_of_mem _ (List.mem_cons_of_mem _ (List.mem_cons_of_mem _ (List.mem_cons_of_mem _ List.mem_cons_self)))); have h : 0 ≤ (-1) + (1 * ρ 4 + 0) := h; omega) hG
  obtain ⟨k0, k1, f0, -⟩ := H
  exact ⟨_, List.mem_cons_self, ρ, fun _ _ => rfl, (okM_c (pvp 372 (by show 0 + (1 * ρ 0 + (64 * ρ 4 + 0)) = _; omega) (by show 0 + (1 * ρ 2 + 0) = _; omega) k0) (okM_c (pvp 358 (by show 0 + (1 * ρ 0 + (64 * ρ 6 + 0)) = _; omega) (by show 0 + 0 = _; omega) k1) okM_n)), okB_n, (okF_c (by show 0 ≤ 35640 + ((-1) * ρ 2 + 0); omega) okF_n)⟩
-- lh0_2
theorem cr_961 (M : pM) (s0 s1 s2 s3 : Int) (b0 : 0 ≤ s0 ∧ s0 ≤ 63) (b1 : 0 ≤ s1 ∧ s1 ≤ 19683) (b2 : 0 ≤ s2 ∧ s2 ≤ 9) (b3 : 0 ≤ s3 ∧ s3 ≤ 3) (m0 : HP 367 (s3) (0 : Int) M) (m1 : (0 ≤ (99 : Int) ∧ M 61 (99 : Int).toNat = (s2))) (f0 : 0 ≤ (s3 - 3)) (hG : gI M) : (HP 346 (s0 + 1024 * s1 + 64 * s2) (s1) M ∧ True) := by
  obtain ⟨h1, h2⟩ := Eq.mp hp_367 m0
  have en : hnR M = s2.toNat := hnR_v (by omega) (by have h : M 61 99 = s2 := m1.2; rw [h]; omega)
  exact ⟨Eq.mpr hp_346 ⟨s0.toNat, s2.toNat, s1.toNat, by omega, by omega, by omega, by rw [en, Nat.sub_self, Nat.pow_zero, Nat.div_one]; omega, fun i hi hj => by omega, fun a ha => by rw [h2 a (by omega), en]; omega⟩, trivial⟩
theorem rul_961 : Rul r_961 := by
  refine ⟨fun _ ρ M hm hB hF hG => ?_, fun gi gv hg => (by cases hg)⟩
  have H := cr_961 M (ρ 0) (ρ 1) (ρ 2) (ρ 3) (hB _ List.mem_cons_self) (hB _ (List.mem_cons_of_mem _ List.mem_cons_self)) (hB _ (List.mem_cons_of_mem _ (List.mem_cons_of_mem _ List.mem_cons_self))) (hB _ (List.mem_cons_of_mem _ (List.mem_cons_of_mem _ (List.mem_cons_of_mem _ List.mem_cons_self)))) (cvp 367 (x' := ((ρ 3))) (y' := (0 : Int)) (by show 0 + (1 * ρ 3 + 0) = _; omega) (by show 0 + 0 = _; omega) (hm _ List.mem_cons_self)) (cvm (c := 61) (by decide) (x' := (99 : Int)) (y' := ((ρ 2))) (by show 99 + 0 = _; omega) (by show 0 + (1 * ρ 2 + 0) = _; omega) (hm _ (List.mem_cons_of_mem _ List.mem_cons_self))) (by have h := hF _ List.mem_cons_self; have h : 0 ≤ (-3) + (1 * ρ 3 + 0) := h; omega) hG
  obtain ⟨k0, -⟩ := H
  exact ⟨_, List.mem_cons_self, ρ, fun _ _ => rfl, (okM_c (pvp 346 (by show 0 + (1 * ρ 0 + (1024 * ρ 1 + (64 * ρ 2 + 0))) = _; omega) (by show 0 + (1 * ρ 1 + 0) = _; omega) k0) okM_n), okB_n, okF_n⟩
-- lhw_2
theorem cr_962 (M : pM) (s0 s1 s2 s3 s4 s5 s6 : Int) (b0 : 0 ≤ s0 ∧ s0 ≤ 63) (b1 : 0 ≤ s1 ∧ s1 ≤ 19683) (b2 : 0 ≤ s2 ∧ s2 ≤ 8) (b3 : 0 ≤ s3 ∧ s3 ≤ 19683) (b4 : (-2147483648) ≤ s4 ∧ s4 ≤ 2147483647) (b5 : 0 ≤ s5 ∧ s5 ≤ 1) (b6 : 0 ≤ s6 ∧ s6 ≤ 9) (m0 : HP 346 (s0 + 1024 * s1 + 64 * s2 + 64) (s3) M) (m1 : (0 ≤ (99 : Int) ∧ M 61 (99 : Int).toNat = (s6))) (f0 : 0 ≤ ((-1) * s3 + 2 * s4 + s5)) (f1 : 0 ≤ (s3 + (-2) * s4 + (-1) * s5)) (f2 : 0 ≤ ((-1) * s2 + s6 - 1)) (hG : gI M) : (HP 349 (s0 + 1024 * s1 + 64 * s2 + 64) (s3) (st M 117 (s2).toNat (s5)) ∧ True) := by
  obtain ⟨f0, o0, w0, h1, h2, h3, h4, h5, h6⟩ := Eq.mp hp_346 m0
  have hn9 := hnR_le (M := M)
  have ef : f0 = s0.toNat := by omega
  have eo : o0 = s2.toNat + 1 := by omega
  have ew : w0 = s1.toNat := by omega
  subst ef; subst eo; subst ew
  have en : hnR M = s6.toNat := hnR_v (by omega) (by have h : M 61 99 = s6 := m1.2; rw [h]; omega)
  have hd := (hdg_q (T := 2) (n := hnR M) (w := s1.toNat) (o := s2.toNat) (by omega)).2
  have hr : (s5) = ((hdg 2 (hnR M) s1.toNat s2.toNat : Nat) : Int) := by
    rw [hd]
    omega
  refine ⟨Eq.mpr hp_349 ⟨s0.toNat, s2.toNat, s1.toNat, by omega, by rw [hnR_st (by decide)]; omega, by omega, by rw [hnR_st (by decide)]; exact h4, fun i hi hj => ?_, fun a ha => ?_⟩, trivial⟩
  · rw [hnR_st (by decide)] at hj ⊢
    rw [hst_v]
    by_cases e : i = s2.toNat
    · rw [if_pos (by omega), e]
      exact hr
    · rw [if_neg (by omega)]
      exact h5 i (by omega) hj
  · rw [hnR_st (by decide), hmR_st (by omega) (by decide) (by decide)]
    exact (show st M 117 (s2).toNat (s5) 118 a = M 118 a from if_neg (by omega)).trans (h6 a ha)
theorem rul_962 : Rul r_962 := by
  refine ⟨fun h => (by cases h), fun gi gv hg ρ M hm hB hF hG => ?_⟩
  obtain ⟨g1, g2⟩ := List.cons.inj (show ([aI ((0 : Int), ([(2, 1)] : List (Nat × Int))), aI ((0 : Int), ([(5, 1)] : List (Nat × Int)))] : List av) = [.inl gi, .inl gv] from hg)
  obtain ⟨g2, -⟩ := List.cons.inj g2
  cases g1
  cases g2
  have ei : ev ρ ((0 : Int), ([(2, 1)] : List (Nat × Int))) = ((ρ 2)) := by show 0 + (1 * ρ 2 + 0) = _; omega
  have ew : ev ρ ((0 : Int), ([(5, 1)] : List (Nat × Int))) = ((ρ 5)) := by show 0 + (1 * ρ 5 + 0) = _; omega
  rw [show (st M (ctj r_962) (ev ρ ((0 : Int), ([(2, 1)] : List (Nat × Int)))).toNat (ev ρ ((0 : Int), ([(5, 1)] : List (Nat × Int))))) = (st M 117 ((ρ 2)).toNat ((ρ 5))) from by rw [ei, ew]; rfl]
  have H := cr_962 M (ρ 0) (ρ 1) (ρ 2) (ρ 3) (ρ 4) (ρ 5) (ρ 6) (hB _ List.mem_cons_self) (hB _ (List.mem_cons_of_mem _ List.mem_cons_self)) (hB _ (List.mem_cons_of_mem _ (List.mem_cons_of_mem _ List.mem_cons_self))) (hB _ (List.mem_cons_of_mem _ (List.mem_cons_of_mem _ (List.mem_cons_of_mem _ List.mem_cons_self)))) (hB _ (List.mem_cons_of_mem _ (List.mem_cons_of_mem _ (List.mem_cons_of_mem _ (List.mem_cons_of_mem _ List.mem_cons_self))))) (hB _ (List.mem_cons_of_mem _ (List.mem_cons_of_mem _ (List.mem_cons_of_mem _ (List.mem_cons_of_mem _ (List.mem_cons_of_mem _ List.mem_cons_self)))))) (hB _ (List.mem_cons_of_mem _ (List.mem_cons_of_mem _ (List.mem_cons_of_mem _ (List.mem_cons_of_mem _ (List.mem_cons_of_mem _ (List.mem_cons_of_mem _ List.mem_cons_self))))))) (cvp 346 (x' := ((ρ 0) + 1024 * (ρ 1) + 64 * (ρ 2) + 64)) (y' := ((ρ 3))) (by show 64 + (1 * ρ 0 + (1024 * ρ 1 + (64 * ρ 2 + 0))) = _; omega) (by show 0 + (1 * ρ 3 + 0) = _; omega) (hm _ List.mem_cons_self)) (cvm (c := 61) (by decide) (x' := (99 : Int)) (y' := ((ρ 6))) (by show 99 + 0 = _; omega) (by show 0 + (1 * ρ 6 + 0) = _; omega) (hm _ (List.mem_cons_of_mem _ List.mem_cons_self))) (by have h := hF _ List.mem_cons_self; have h : 0 ≤ 0 + ((-1) * ρ 3 + (2 * ρ 4 + (1 * ρ 5 + 0))) := h; omega) (by have h := hF _ (List.mem_cons_of_mem _ List.mem_cons_self); have h : 0 ≤ 0 + (1 * ρ 3 + ((-2) * ρ 4 + ((-1) * ρ 5 + 0))) := h; omega) (by have h := hF _ (List.mem_cons_of_mem _ (List.mem_cons_of_mem _ List.mem_cons_self)); have h : 0 ≤ (-1) + ((-1) * ρ 2 + (1 * ρ 6 + 0)) := h; omega) hG
  obtain ⟨k0, -⟩ := H
  exact ⟨_, List.mem_cons_self, ρ, fun _ _ => rfl, (okM_c (pvp 349 (by show 64 + (1 * ρ 0 + (1024 * ρ 1 + (64 * ρ 2 + 0))) = _; omega) (by show 0 + (1 * ρ 3 + 0) = _; omega) k0) okM_n), okB_n, okF_n⟩
-- lhb_2
theorem cr_963 (M : pM) (s0 s1 s2 s3 s4 s5 : Int) (b0 : 0 ≤ s0 ∧ s0 ≤ 63) (b1 : 0 ≤ s1 ∧ s1 ≤ 19683) (b2 : 0 ≤ s2 ∧ s2 ≤ 8) (b3 : 0 ≤ s3 ∧ s3 ≤ 19683) (b4 : 0 ≤ s4 ∧ s4 ≤ 2) (b5 : (-2147483648) ≤ s5 ∧ s5 ≤ 2147483647) (m0 : HP 349 (s0 + 1024 * s1 + 64 * s2 + 64) (s3) M) (m1 : (0 ≤ (s4) ∧ M 118 (s4).toNat = (s5))) (hG : gI M) : (0 ≤ (s5) ∧ 0 ≤ ((-1) * s5 + 1600000) ∧ True) := by
  obtain ⟨f0, o0, w0, h1, h2, h3, h4, h5, h6⟩ := Eq.mp hp_349 m0
  have hn9 := hnR_le (M := M)
  have ef : f0 = s0.toNat := by omega
  have eo : o0 = s2.toNat := by omega
  have ew : w0 = s1.toNat := by omega
  subst ef; subst eo; subst ew
  have k := hps_d (t := hdg 2 (hnR M) s1.toNat) (a := s4.toNat) (g := s2.toNat + 1) (K := 200000) (hmR_0 hG (f := s0.toNat) (by omega)) (hnR M - (s2.toNat + 1))
  rw [show s2.toNat + 1 + (hnR M - (s2.toNat + 1)) = hnR M by omega] at k
  have k2 := h6 s4.toNat (by omega)
  rw [m1.2] at k2
  exact ⟨by omega, by omega, trivial⟩
theorem rul_963 : Rul r_963 := by
  refine ⟨fun _ ρ M hm hB hF hG => ?_, fun gi gv hg => (by cases hg)⟩
  have H := cr_963 M (ρ 0) (ρ 1) (ρ 2) (ρ 3) (ρ 4) (ρ 5) (hB _ List.mem_cons_self) (hB _ (List.mem_cons_of_mem _ List.mem_cons_self)) (hB _ (List.mem_cons_of_mem _ (List.mem_cons_of_mem _ List.mem_cons_self))) (hB _ (List.mem_cons_of_mem _ (List.mem_cons_of_mem _ (List.mem_cons_of_mem _ List.mem_cons_self)))) (hB _ (List.mem_cons_of_mem _ (List.mem_cons_of_mem _ (List.mem_cons_of_mem _ (List.mem_cons_of_mem _ List.mem_cons_self))))) (hB _ (List.mem_cons_of_mem _ (List.mem_cons_of_mem _ (List.mem_cons_of_mem _ (List.mem_cons_of_mem _ (List.mem_cons_of_mem _ List.mem_cons_self)))))) (cvp 349 (x' := ((ρ 0) + 1024 * (ρ 1) + 64 * (ρ 2) + 64)) (y' := ((ρ 3))) (by show 64 + (1 * ρ 0 + (1024 * ρ 1 + (64 * ρ 2 + 0))) = _; omega) (by show 0 + (1 * ρ 3 + 0) = _; omega) (hm _ List.mem_cons_self)) (cvm (c := 118) (by decide) (x' := ((ρ 4))) (y' := ((ρ 5))) (by show 0 + (1 * ρ 4 + 0) = _; omega) (by show 0 + (1 * ρ 5 + 0) = _; omega) (hm _ (List.mem_cons_of_mem _ List.mem_cons_self))) hG
  obtain ⟨f0, f1, -⟩ := H
  exact ⟨_, List.mem_cons_self, ρ, fun _ _ => rfl, okM_n, okB_n, (okF_c (by show 0 ≤ 0 + (1 * ρ 5 + 0); omega) (okF_c (by show 0 ≤ 1600000 + ((-1) * ρ 5 + 0); omega) okF_n))⟩
-- lhx_2
theorem cr_964 (M : pM) (s0 s1 s2 s3 s4 s5 s6 s7 s8 s9 s10 : Int) (b0 : 0 ≤ s0 ∧ s0 ≤ 63) (b1 : 0 ≤ s1 ∧ s1 ≤ 19683) (b2 : 0 ≤ s2 ∧ s2 ≤ 8) (b3 : 0 ≤ s3 ∧ s3 ≤ 19683) (b4 : (-2147483648) ≤ s4 ∧ s4 ≤ 2147483647) (b5 : 0 ≤ s5 ∧ s5 ≤ 1) (b6 : 0 ≤ s6 ∧ s6 ≤ 2) (b7 : (-2147483648) ≤ s7 ∧ s7 ≤ 2147483647) (b8 : 0 ≤ s8 ∧ s8 ≤ 63) (b9 : 0 ≤ s9 ∧ s9 ≤ 100000) (b10 : 0 ≤ s10 ∧ s10 ≤ 9) (m0 : HP 349 (s0 + 1024 * s1 + 64 * s2 + 64) (s3) M) (m1 : (0 ≤ (s2) ∧ M 117 (s2).toNat = (s6))) (m2 : (0 ≤ (s6) ∧ M 118 (s6).toNat = (s7))) (m3 : (0 ≤ (s2) ∧ M 115 (s2).toNat = (s8))) (m4 : (0 ≤ (64 * s0 + s8) ∧ M 114 (64 * s0 + s8).toNat = (s9))) (m5 : (0 ≤ (99 : Int) ∧ M 61 (99 : Int).toNat = (s10))) (f0 : 0 ≤ ((-1) * s3 + 2 * s4 + s5)) (f1 : 0 ≤ (s3 + (-2) * s4 + (-1) * s5)) (f2 : 0 ≤ ((-1) * s2 + s10 - 1)) (hG : gI M) : (HP 346 (s0 + 1024 * s1 + 64 * s2) (s4) (st M 118 (s6).toNat (s7 + 2 * s9)) ∧ True) := by
  obtain ⟨f0, o0, w0, h1, h2, h3, h4, h5, h6⟩ := Eq.mp hp_349 m0
  have hn9 := hnR_le (M := M)
  have ef : f0 = s0.toNat := by omega
  have eo : o0 = s2.toNat := by omega
  have ew : w0 = s1.toNat := by omega
  subst ef; subst eo; subst ew
  have en : hnR M = s10.toNat := hnR_v (by omega) (by have h : M 61 99 = s10 := m5.2; rw [h]; omega)
  have hm := hmR_v (f := s0.toNat) (o := s2.toNat) (c := s8.toNat) (by omega) (by omega) (m3.2.trans (by omega)) (show M 114 (64 * s0.toNat + s8.toNat) = s9 by rw [show 64 * s0.toNat + s8.toNat = (64 * s0 + s8).toNat by omega]; exact m4.2)
  have hr := h5 s2.toNat (Nat.le_refl _) (by omega)
  rw [m1.2] at hr
  obtain ⟨hq, -⟩ := hdg_q (T := 2) (n := hnR M) (w := s1.toNat) (o := s2.toNat) (by omega)
  refine ⟨Eq.mpr hp_346 ⟨s0.toNat, s2.toNat, s1.toNat, by omega, by rw [hnR_st (by decide)]; omega, by omega, by rw [hnR_st (by decide), hq]; omega, fun i hi hj => ?_, fun a ha => ?_⟩, trivial⟩
  · rw [hnR_st (by decide)] at hj ⊢
    exact (show st M 118 (s6).toNat (s7 + 2 * s9) 117 i = M 117 i from if_neg (by omega)).trans (h5 i hi hj)
  · rw [hnR_st (by decide), hmR_st (by omega) (by decide) (by decide), hst_v]
    have k1 := h6 a ha
    have k2 : hps (hmR s0.toNat M) (hdg 2 (hnR M) s1.toNat) a (s2.toNat + 1) = hps (hmR s0.toNat M) (hdg 2 (hnR M) s1.toNat) a s2.toNat + (if hdg 2 (hnR M) s1.toNat s2.toNat = a then hmR s0.toNat M s2.toNat else 0) := rfl
    rw [hm] at k2
    by_cases e : a = s6.toNat
    · rw [if_pos e]
      rw [if_pos (by omega)] at k2
      rw [e, m2.2, ← e] at k1
      omega
    · rw [if_neg e]
      rw [if_neg (by omega)] at k2
      omega
theorem rul_964 : Rul r_964 := by
  refine ⟨fun h => (by cases h), fun gi gv hg ρ M hm hB hF hG => ?_⟩
  obtain ⟨g1, g2⟩ := List.cons.inj (show ([aI ((0 : Int), ([(6, 1)] : List (Nat × Int))), aI ((0 : Int), ([(7, 1), (9, 2)] : List (Nat × Int)))] : List av) = [.inl gi, .inl gv] from hg)
  obtain ⟨g2, -⟩ := List.cons.inj g2
  cases g1
  cases g2
  have ei : ev ρ ((0 : Int), ([(6, 1)] : List (Nat × Int))) = ((ρ 6)) := by show 0 + (1 * ρ 6 + 0) = _; omega
  have ew : ev ρ ((0 : Int), ([(7, 1), (9, 2)] : List (Nat × Int))) = ((ρ 7) + 2 * (ρ 9)) := by show 0 + (1 * ρ 7 + (2 * ρ 9 + 0)) = _; omega
  rw [show (st M (ctj r_964) (ev ρ ((0 : Int), ([(6, 1)] : List (Nat × Int)))).toNat (ev ρ ((0 : Int), ([(7, 1), (9, 2)] : List (Nat × Int))))) = (st M 118 ((ρ 6)).toNat ((ρ 7) + 2 * (ρ 9))) from by rw [ei, ew]; rfl]
  have H := cr_964 M (ρ 0) (ρ 1) (ρ 2) (ρ 3) (ρ 4) (ρ 5) (ρ 6) (ρ 7) (ρ 8) (ρ 9) (ρ 10) (hB _ List.mem_cons_self) (hB _ (List.mem_cons_of_mem _ List.mem_cons_self)) (hB _ (List.mem_cons_of_mem _ (List.mem_cons_of_mem _ List.mem_cons_self))) (hB _ (List.mem_cons_of_mem _ (List.mem_cons_of_mem _ (List.mem_cons_of_mem _ List.mem_cons_self)))) (hB _ (List.mem_cons_of_mem _ (List.mem_cons_of_mem _ (List.mem_cons_of_mem _ (List.mem_cons_of_mem _ List.mem_cons_self))))) (hB _ (List.mem_cons_of_mem _ (List.mem_cons_of_mem _ (List.mem_cons_of_mem _ (List.mem_cons_of_mem _ (List.mem_cons_of_mem _ List.mem_cons_self)))))) (hB _ (List.mem_cons_of_mem _ (List.mem_cons_of_mem _ (List.mem_cons_of_mem _ (List.mem_cons_of_mem _ (List.mem_cons_of_mem _ (List.mem_cons_of_mem _ List.mem_cons_self))))))) (hB _ (List.mem_cons_of_mem _ (List.mem_cons_of_mem _ (List.mem_cons_of_mem _ (List.mem_cons_of_mem _ (List.mem_cons_of_mem _ (List.mem_cons_of_mem _ (List.mem_cons_of_mem _ List.mem_cons_self)))))))) (hB _ (List.mem_cons_of_mem _ (List.mem_cons_of_mem _ (List.mem_cons_of_mem _ (List.mem_cons_of_mem _ (List.mem_cons_of_mem _ (List.mem_cons_of_mem _ (List.mem_cons_of_mem _ (List.mem_cons_of_mem _ List.mem_cons_self))))))))) (hB _ (List.mem_cons_of_mem _ (List.mem_cons_of_mem _ (List.mem_cons_of_mem _ (List.mem_cons_of_mem _ (List.mem_cons_of_mem _ (List.mem_cons_of_mem _ (List.mem_cons_of_mem _ (List.mem_cons_of_mem _ (List.mem_cons_of_mem _ List.mem_cons_self)))))))))) (hB _ (List.mem_cons_of_mem _ (List.mem_cons_of_mem _ (List.mem_cons_of_mem _ (List.mem_cons_of_mem _ (List.mem_cons_of_mem _ (List.mem_cons_of_mem _ (List.mem_cons_of_mem _ (List.mem_cons_of_mem _ (List.mem_cons_of_mem _ (List.mem_cons_of_mem _ List.mem_cons_self))))))))))) (cvp 349 (x' := ((ρ 0) + 1024 * (ρ 1) + 64 * (ρ 2) + 64)) (y' := ((ρ 3))) (by show 64 + (1 * ρ 0 + (1024 * ρ 1 + (64 * ρ 2 + 0))) = _; omega) (by show 0 + (1 * ρ 3 + 0) = _; omega) (hm _ List.mem_cons_self)) (cvm (c := 117) (by decide) (x' := ((ρ 2))) (y' := ((ρ 6))) (by show 0 + (1 * ρ 2 + 0) = _; omega) (by show 0 + (1 * ρ 6 + 0) = _; omega) (hm _ (List.mem_cons_of_mem _ List.mem_cons_self))) (cvm (c := 118) (by decide) (x' := ((ρ 6))) (y' := ((ρ 7))) (by show 0 + (1 * ρ 6 + 0) = _; omega) (by show 0 + (1 * ρ 7 + 0) = _; omega) (hm _ (List.mem_cons_of_mem _ (List.mem_cons_of_mem _ List.mem_cons_self)))) (cvm (c := 115) (by decide) (x' := ((ρ 2))) (y' := ((ρ 8))) (by show 0 + (1 * ρ 2 + 0) = _; omega) (by show 0 + (1 * ρ 8 + 0) = _; omega) (hm _ (List.mem_cons_of_mem _ (List.mem_cons_of_mem _ (List.mem_cons_of_mem _ List.mem_cons_self))))) (cvm (c := 114) (by decide) (x' := (64 * (ρ 0) + (ρ 8))) (y' := ((ρ 9))) (by show 0 + (64 * ρ 0 + (1 * ρ 8 + 0)) = _; omega) (by show 0 + (1 * ρ 9 + 0) = _; omega) (hm _ (List.mem_cons_of_mem _ (List.mem_cons_of_mem _ (List.mem_cons_of_mem _ (List.mem_cons_of_mem _ List.mem_cons_self)))))) (cvm (c := 61) (by decide) (x' := (99 : Int)) (y' := ((ρ 10))) (by show 99 + 0 = _; omega) (by show 0 + (1 * ρ 10 + 0) = _; omega) (hm _ (List.mem_cons_of_mem _ (List.mem_cons_of_mem _ (List.mem_cons_of_mem _ (List.mem_cons_of_mem _ (List.mem_cons_of_mem _ List.mem_cons_self))))))) (by have h := hF _ List.mem_cons_self; have h : 0 ≤ 0 + ((-1) * ρ 3 + (2 * ρ 4 + (1 * ρ 5 + 0))) := h; omega) (by have h := hF _ (List.mem_cons_of_mem _ List.mem_cons_self); have h : 0 ≤ 0 + (1 * ρ 3 + ((-2) * ρ 4 + ((-1) * ρ 5 + 0))) := h; omega) (by have h := hF _ (List.mem_cons_of_mem _ (List.mem_cons_of_mem _ List.mem_cons_self)); have h : 0 ≤ (-1) + ((-1) * ρ 2 + (1 * ρ 10 + 0)) := h; omega) hG
  obtain ⟨k0, -⟩ := H
  exact ⟨_, List.mem_cons_self, ρ, fun _ _ => rfl, (okM_c (pvp 346 (by show 0 + (1 * ρ 0 + (1024 * ρ 1 + (64 * ρ 2 + 0))) = _; omega) (by show 0 + (1 * ρ 4 + 0) = _; omega) k0) okM_n), okB_n, okF_n⟩
-- lhn_2
theorem cr_965 (M : pM) (s0 s1 s2 s3 : Int) (b0 : 0 ≤ s0 ∧ s0 ≤ 63) (b1 : 0 ≤ s1 ∧ s1 ≤ 19683) (b2 : 0 ≤ s2 ∧ s2 ≤ 19683) (b3 : 0 ≤ s3 ∧ s3 ≤ 9) (m0 : HP 346 (s0 + 1024 * s1 + 64 * s3) (s2) M) (f0 : 0 ≤ ((-1) * s3)) (hG : gI M) : (HP 346 (s0 + 1024 * s1) (s2) M ∧ True) := by
  obtain ⟨f0, o0, w0, h1, h2, h3, h4, h5, h6⟩ := Eq.mp hp_346 m0
  exact ⟨Eq.mpr hp_346 ⟨f0, o0, w0, h1, h2, by omega, h4, h5, h6⟩, trivial⟩
theorem rul_965 : Rul r_965 := by
  refine ⟨fun _ ρ M hm hB hF hG => ?_, fun gi gv hg => (by cases hg)⟩
  have H := cr_965 M (ρ 0) (ρ 1) (ρ 2) (ρ 3) (hB _ List.mem_cons_self) (hB _ (List.mem_cons_of_mem _ List.mem_cons_self)) (hB _ (List.mem_cons_of_mem _ (List.mem_cons_of_mem _ List.mem_cons_self))) (hB _ (List.mem_cons_of_mem _ (List.mem_cons_of_mem _ (List.mem_cons_of_mem _ List.mem_cons_self)))) (cvp 346 (x' := ((ρ 0) + 1024 * (ρ 1) + 64 * (ρ 3))) (y' := ((ρ 2))) (by show 0 + (1 * ρ 0 + (1024 * ρ 1 + (64 * ρ 3 + 0))) = _; omega) (by show 0 + (1 * ρ 2 + 0) = _; omega) (hm _ List.mem_cons_self)) (by have h := hF _ List.mem_cons_self; have h : 0 ≤ 0 + ((-1) * ρ 3 + 0) := h; omega) hG
  obtain ⟨k0, -⟩ := H
  exact ⟨_, List.mem_cons_self, ρ, fun _ _ => rfl, (okM_c (pvp 346 (by show 0 + (1 * ρ 0 + (1024 * ρ 1 + 0)) = _; omega) (by show 0 + (1 * ρ 2 + 0) = _; omega) k0) okM_n), okB_n, okF_n⟩
-- lmb_2
theorem cr_966 (M : pM) (s0 s1 s2 s3 s4 : Int) (b0 : 0 ≤ s0 ∧ s0 ≤ 63) (b1 : 0 ≤ s1 ∧ s1 ≤ 19683) (b2 : 0 ≤ s2 ∧ s2 ≤ 19683) (b3 : 0 ≤ s3 ∧ s3 ≤ 2) (b4 : (-2147483648) ≤ s4 ∧ s4 ≤ 2147483647) (m0 : HP 346 (s0 + 1024 * s1) (s2) M) (m1 : (0 ≤ (s3) ∧ M 118 (s3).toNat = (s4))) (hG : gI M) : (0 ≤ (s4) ∧ 0 ≤ ((-1) * s4 + 1800000) ∧ True) := by
  obtain ⟨f0, o0, w0, h1, h2, h3, h4, h5, h6⟩ := Eq.mp hp_346 m0
  have hn9 := hnR_le (M := M)
  have ef : f0 = s0.toNat := by omega
  have eo : o0 = 0 := by omega
  have ew : w0 = s1.toNat := by omega
  subst ef; subst eo; subst ew
  have k := hps_d (t := hdg 2 (hnR M) s1.toNat) (a := s3.toNat) (g := 0) (K := 200000) (hmR_0 hG (f := s0.toNat) (by omega)) (hnR M)
  rw [Nat.zero_add] at k
  have k2 := h6 s3.toNat (by omega)
  rw [m1.2] at k2
  exact ⟨by omega, by omega, trivial⟩
theorem rul_966 : Rul r_966 := by
  refine ⟨fun _ ρ M hm hB hF hG => ?_, fun gi gv hg => (by cases hg)⟩
  have H := cr_966 M (ρ 0) (ρ 1) (ρ 2) (ρ 3) (ρ 4) (hB _ List.mem_cons_self) (hB _ (List.mem_cons_of_mem _ List.mem_cons_self)) (hB _ (List.mem_cons_of_mem _ (List.mem_cons_of_mem _ List.mem_cons_self))) (hB _ (List.mem_cons_of_mem _ (List.mem_cons_of_mem _ (List.mem_cons_of_mem _ List.mem_cons_self)))) (hB _ (List.mem_cons_of_mem _ (List.mem_cons_of_mem _ (List.mem_cons_of_mem _ (List.mem_cons_of_mem _ List.mem_cons_self))))) (cvp 346 (x' := ((ρ 0) + 1024 * (ρ 1))) (y' := ((ρ 2))) (by show 0 + (1 * ρ 0 + (1024 * ρ 1 + 0)) = _; omega) (by show 0 + (1 * ρ 2 + 0) = _; omega) (hm _ List.mem_cons_self)) (cvm (c := 118) (by decide) (x' := ((ρ 3))) (y' := ((ρ 4))) (by show 0 + (1 * ρ 3 + 0) = _; omega) (by show 0 + (1 * ρ 4 + 0) = _; omega) (hm _ (List.mem_cons_of_mem _ List.mem_cons_self))) hG
  obtain ⟨f0, f1, -⟩ := H
  exact ⟨_, List.mem_cons_self, ρ, fun _ _ => rfl, okM_n, okB_n, (okF_c (by show 0 ≤ 0 + (1 * ρ 4 + 0); omega) (okF_c (by show 0 ≤ 1800000 + ((-1) * ρ 4 + 0); omega) okF_n))⟩
-- lce_2
theorem cr_967 (M : pM) (s0 s1 s2 s3 s4 : Int) (b0 : 0 ≤ s0 ∧ s0 ≤ 63) (b1 : 0 ≤ s1 ∧ s1 ≤ 19683) (b2 : 0 ≤ s2 ∧ s2 ≤ 19683) (b3 : 0 ≤ s3 ∧ s3 ≤ 3) (b4 : 0 ≤ s4 ∧ s4 ≤ 1800000) (m0 : HP 346 (s0 + 1024 * s1) (s2) M) (m1 : HP 354 (s3) (s4) M) (f0 : 0 ≤ (s3 - 3)) (hG : gI M) : (HP 352 (s0 + 64 * s1) (s4) M ∧ True) := by
  obtain ⟨f0, o0, w0, h1, h2, h3, h4, h5, h6⟩ := Eq.mp hp_346 m0
  have hn9 := hnR_le (M := M)
  have ef : f0 = s0.toNat := by omega
  have eo : o0 = 0 := by omega
  have ew : w0 = s1.toNat := by omega
  subst ef; subst eo; subst ew
  obtain ⟨r1, r2, r3, r4⟩ := Eq.mp hp_354 m1
  have h6 : ∀ a : Nat, a < 3 → M 118 a = hps (hmR s0.toNat M) (hdg 2 (hnR M) s1.toNat) a (hnR M) := fun a ha => by
    have h := h6 a ha
    have e : hps (hmR s0.toNat M) (hdg 2 (hnR M) s1.toNat) a 0 = 0 := rfl
    omega
  exact ⟨Eq.mpr hp_352 ⟨s0.toNat, s1.toNat, by omega, by omega, fun i hi => h5 i (Nat.zero_le i) hi, hco_eq (fun a ha => by rw [← h6 a ha]; exact r3 a (by omega)) (by
      rcases r4 with r4 | ⟨a, a1, a2⟩
      · refine ⟨0, by decide, ?_⟩
        have k1 := hps_d (t := hdg 2 (hnR M) s1.toNat) (a := 0) (g := 0) (K := 200000) (hmR_0 hG (f := s0.toNat) (by omega)) (hnR M)
        rw [Nat.zero_add] at k1
        have k2 := r3 0 (by omega)
        rw [h6 0 (by decide)] at k2
        have e : hps (hmR s0.toNat M) (hdg 2 (hnR M) s1.toNat) 0 0 = 0 := rfl
        omega
      · exact ⟨a, by omega, by rw [← h6 a (by omega)]; exact a2⟩)⟩, trivial⟩
theorem rul_967 : Rul r_967 := by
  refine ⟨fun _ ρ M hm hB hF hG => ?_, fun gi gv hg => (by cases hg)⟩
  have H := cr_967 M (ρ 0) (ρ 1) (ρ 2) (ρ 3) (ρ 4) (hB _ List.mem_cons_self) (hB _ (List.mem_cons_of_mem _ List.mem_cons_self)) (hB _ (List.mem_cons_of_mem _ (List.mem_cons_of_mem _ List.mem_cons_self))) (hB _ (List.mem_cons_of_mem _ (List.mem_cons_of_mem _ (List.mem_cons_of_mem _ List.mem_cons_self)))) (hB _ (List.mem_cons_of_mem _ (List.mem_cons_of_mem _ (List.mem_cons_of_mem _ (List.mem_cons_of_mem _ List.mem_cons_self))))) (cvp 346 (x' := ((ρ 0) + 1024 * (ρ 1))) (y' := ((ρ 2))) (by show 0 + (1 * ρ 0 + (1024 * ρ 1 + 0)) = _; omega) (by show 0 + (1 * ρ 2 + 0) = _; omega) (hm _ List.mem_cons_self)) (cvp 354 (x' := ((ρ 3))) (y' := ((ρ 4))) (by show 0 + (1 * ρ 3 + 0) = _; omega) (by show 0 + (1 * ρ 4 + 0) = _; omega) (hm _ (List.mem_cons_of_mem _ List.mem_cons_self))) (by have h := hF _ List.mem_cons_self; have h : 0 ≤ (-3) + (1 * ρ 3 + 0) := h; omega) hG
  obtain ⟨k0, -⟩ := H
  exact ⟨_, List.mem_cons_self, ρ, fun _ _ => rfl, (okM_c (pvp 352 (by show 0 + (1 * ρ 0 + (64 * ρ 1 + 0)) = _; omega) (by show 0 + (1 * ρ 4 + 0) = _; omega) k0) okM_n), okB_n, okF_n⟩
-- pw0_2
theorem cr_968 (M : pM)  (hG : gI M) : (HP 356 (0 : Int) (1 : Int) M ∧ True) := by
  exact ⟨Eq.mpr hp_356 ⟨0, by decide, by omega, rfl⟩, trivial⟩
theorem rul_968 : Rul r_968 := by
  refine ⟨fun _ ρ M hm hB hF hG => ?_, fun gi gv hg => (by cases hg)⟩
  have H := cr_968 M hG
  obtain ⟨k0, -⟩ := H
  exact ⟨_, List.mem_cons_self, ρ, fun _ _ => rfl, (okM_c (pvp 356 (by show 0 + 0 = _; omega) (by show 1 + 0 = _; omega) k0) okM_n), okB_n, okF_n⟩
-- pwn_2
theorem cr_969 (M : pM) (s0 s1 : Int) (b0 : 0 ≤ s0 ∧ s0 ≤ 8) (b1 : (-2147483648) ≤ s1 ∧ s1 ≤ 2147483647) (m0 : HP 356 (s0) (s1) M) (hG : gI M) : (HP 356 (s0 + 1) (2 * s1) M ∧ 0 ≤ (s1 - 1) ∧ 0 ≤ ((-1) * s1 + 256) ∧ True) := by
  obtain ⟨k0, p1, p2, p3⟩ := Eq.mp hp_356 m0
  have ek : k0 = s0.toNat := by omega
  subst ek
  have q1 : 2 ^ 0 ≤ 2 ^ s0.toNat := Nat.pow_le_pow_right (by decide) (Nat.zero_le _)
  rw [Nat.pow_zero] at q1
  have q2 : 2 ^ s0.toNat ≤ 2 ^ 8 := Nat.pow_le_pow_right (by decide) (by omega)
  rw [show 2 ^ 8 = 256 by decide] at q2
  exact ⟨Eq.mpr hp_356 ⟨s0.toNat + 1, by omega, by omega, by rw [Nat.pow_succ]; omega⟩, by omega, by omega, trivial⟩
theorem rul_969 : Rul r_969 := by
  refine ⟨fun _ ρ M hm hB hF hG => ?_, fun gi gv hg => (by cases hg)⟩
  have H := cr_969 M (ρ 0) (ρ 1) (hB _ List.mem_cons_self) (hB _ (List.mem_cons_of_mem _ List.mem_cons_self)) (cvp 356 (x' := ((ρ 0))) (y' := ((ρ 1))) (by show 0 + (1 * ρ 0 + 0) = _; omega) (by show 0 + (1 * ρ 1 + 0) = _; omega) (hm _ List.mem_cons_self)) hG
  obtain ⟨k0, f0, f1, -⟩ := H
  exact ⟨_, List.mem_cons_self, ρ, fun _ _ => rfl, (okM_c (pvp 356 (by show 1 + (1 * ρ 0 + 0) = _; omega) (by show 0 + (2 * ρ 1 + 0) = _; omega) k0) okM_n), okB_n, (okF_c (by show 0 ≤ (-1) + (1 * ρ 1 + 0); omega) (okF_c (by show 0 ≤ 256 + ((-1) * ρ 1 + 0); omega) okF_n))⟩
-- pwb_2
theorem cr_970 (M : pM) (s0 s1 : Int) (b0 : 0 ≤ s0 ∧ s0 ≤ 9) (b1 : (-2147483648) ≤ s1 ∧ s1 ≤ 2147483647) (m0 : HP 356 (s0) (s1) M) (hG : gI M) : (0 ≤ (s1 - 1) ∧ 0 ≤ ((-1) * s1 + 512) ∧ True) := by
  obtain ⟨k0, p1, p2, p3⟩ := Eq.mp hp_356 m0
  have ek : k0 = s0.toNat := by omega
  subst ek
  have q1 : 2 ^ 0 ≤ 2 ^ s0.toNat := Nat.pow_le_pow_right (by decide) (Nat.zero_le _)
  rw [Nat.pow_zero] at q1
  have q2 : 2 ^ s0.toNat ≤ 2 ^ 9 := Nat.pow_le_pow_right (by decide) (by omega)
  rw [show 2 ^ 9 = 512 by decide] at q2
  exact ⟨by omega, by omega, trivial⟩
theorem rul_970 : Rul r_970 := by
  refine ⟨fun _ ρ M hm hB hF hG => ?_, fun gi gv hg => (by cases hg)⟩
  have H := cr_970 M (ρ 0) (ρ 1) (hB _ List.mem_cons_self) (hB _ (List.mem_cons_of_mem _ List.mem_cons_self)) (cvp 356 (x' := ((ρ 0))) (y' := ((ρ 1))) (by show 0 + (1 * ρ 0 + 0) = _; omega) (by show 0 + (1 * ρ 1 + 0) = _; omega) (hm _ List.mem_cons_self)) hG
  obtain ⟨f0, f1, -⟩ := H
  exact ⟨_, List.mem_cons_self, ρ, fun _ _ => rfl, okM_n, okB_n, (okF_c (by show 0 ≤ (-1) + (1 * ρ 1 + 0); omega) (okF_c (by show 0 ≤ 512 + ((-1) * ρ 1 + 0); omega) okF_n))⟩
-- pwx_2
theorem cr_971 (M : pM) (s0 s1 s2 : Int) (b0 : 0 ≤ s0 ∧ s0 ≤ 9) (b1 : (-2147483648) ≤ s1 ∧ s1 ≤ 2147483647) (b2 : 0 ≤ s2 ∧ s2 ≤ 9) (m0 : HP 356 (s0) (s1) M) (m1 : (0 ≤ (99 : Int) ∧ M 61 (99 : Int).toNat = (s2))) (f0 : 0 ≤ (s0 + (-1) * s2)) (f1 : 0 ≤ ((-1) * s0 + s2)) (hG : gI M) : (HP 356 (s2) (s1) M ∧ True) := by
  obtain ⟨k0, p1, p2, p3⟩ := Eq.mp hp_356 m0
  exact ⟨Eq.mpr hp_356 ⟨k0, p1, by omega, p3⟩, trivial⟩
theorem rul_971 : Rul r_971 := by
  refine ⟨fun _ ρ M hm hB hF hG => ?_, fun gi gv hg => (by cases hg)⟩
  have H := cr_971 M (ρ 0) (ρ 1) (ρ 2) (hB _ List.mem_cons_self) (hB _ (List.mem_cons_of_mem _ List.mem_cons_self)) (hB _ (List.mem_cons_of_mem _ (List.mem_cons_of_mem _ List.mem_cons_self))) (cvp 356 (x' := ((ρ 0))) (y' := ((ρ 1))) (by show 0 + (1 * ρ 0 + 0) = _; omega) (by show 0 + (1 * ρ 1 + 0) = _; omega) (hm _ List.mem_cons_self)) (cvm (c := 61) (by decide) (x' := (99 : Int)) (y' := ((ρ 2))) (by show 99 + 0 = _; omega) (by show 0 + (1 * ρ 2 + 0) = _; omega) (hm _ (List.mem_cons_of_mem _ List.mem_cons_self))) (by have h := hF _ List.mem_cons_self; have h : 0 ≤ 0 + (1 * ρ 0 + ((-1) * ρ 2 + 0)) := h; omega) (by have h := hF _ (List.mem_cons_of_mem _ List.mem_cons_self); have h : 0 ≤ 0 + ((-1) * ρ 0 + (1 * ρ 2 + 0)) := h; omega) hG
  obtain ⟨k0, -⟩ := H
  exact ⟨_, List.mem_cons_self, ρ, fun _ _ => rfl, (okM_c (pvp 356 (by show 0 + (1 * ρ 2 + 0) = _; omega) (by show 0 + (1 * ρ 1 + 0) = _; omega) k0) okM_n), okB_n, okF_n⟩
-- sw0_2
theorem cr_972 (M : pM) (s0 : Int) (b0 : 0 ≤ s0 ∧ s0 ≤ 63) (hG : gI M) : (HP 360 (s0) (100000 : Int) M ∧ True) := by
  exact ⟨Eq.mpr hp_360 ⟨s0.toNat, 0, by omega, by omega, fun t _ hs => absurd hs (Nat.not_lt_zero _), Or.inl rfl⟩, trivial⟩
theorem rul_972 : Rul r_972 := by
  refine ⟨fun _ ρ M hm hB hF hG => ?_, fun gi gv hg => (by cases hg)⟩
  have H := cr_972 M (ρ 0) (hB _ List.mem_cons_self) hG
  obtain ⟨k0, -⟩ := H
  exact ⟨_, List.mem_cons_self, ρ, fun _ _ => rfl, (okM_c (pvp 360 (by show 0 + (1 * ρ 0 + 0) = _; omega) (by show 100000 + 0 = _; omega) k0) okM_n), okB_n, okF_n⟩
-- swk_2
theorem cr_973 (M : pM) (s0 s1 s2 s3 : Int) (b0 : 0 ≤ s0 ∧ s0 ≤ 63) (b1 : 0 ≤ s1 ∧ s1 ≤ 19683) (b2 : 0 ≤ s2 ∧ s2 ≤ 100000) (b3 : 0 ≤ s3 ∧ s3 ≤ 1800000) (m0 : HP 360 (s0 + 64 * s1) (s2) M) (m1 : HP 352 (s0 + 64 * s1) (s3) M) (f0 : 0 ≤ ((-1) * s2 + s3)) (hG : gI M) : (HP 360 (s0 + 64 * s1 + 64) (s2) M ∧ True) := by
  obtain ⟨f0, w0, h1, h2, h3⟩ := Eq.mp hp_360 m0
  have ef : f0 = s0.toNat := by omega
  have ew : w0 = s1.toNat := by omega
  subst ef; subst ew
  obtain ⟨f9, w9, l1, l2, l3, l4⟩ := Eq.mp hp_352 m1
  have ef9 : f9 = s0.toNat := by omega
  have ew9 : w9 = s1.toNat := by omega
  subst ef9; subst ew9
  exact ⟨Eq.mpr hp_360 ⟨s0.toNat, s1.toNat + 1, by omega, by omega, by
      by_cases hw : s1.toNat < 2 ^ hnR M
      · exact sw_k (by decide) hw h3 l4 (by omega)
      · exact hbs_s h3 (fun t ht hs hn => by
          have := hnu_lt _ ht
          have hn : ¬ hnu 2 t (hnR M) < s1.toNat := hn
          omega) (fun hs => by
          have hs : hnu 2 _ (hnR M) < s1.toNat := hs
          show hnu 2 _ (hnR M) < s1.toNat + 1
          omega)⟩, trivial⟩
theorem rul_973 : Rul r_973 := by
  refine ⟨fun _ ρ M hm hB hF hG => ?_, fun gi gv hg => (by cases hg)⟩
  have H := cr_973 M (ρ 0) (ρ 1) (ρ 2) (ρ 3) (hB _ List.mem_cons_self) (hB _ (List.mem_cons_of_mem _ List.mem_cons_self)) (hB _ (List.mem_cons_of_mem _ (List.mem_cons_of_mem _ List.mem_cons_self))) (hB _ (List.mem_cons_of_mem _ (List.mem_cons_of_mem _ (List.mem_cons_of_mem _ List.mem_cons_self)))) (cvp 360 (x' := ((ρ 0) + 64 * (ρ 1))) (y' := ((ρ 2))) (by show 0 + (1 * ρ 0 + (64 * ρ 1 + 0)) = _; omega) (by show 0 + (1 * ρ 2 + 0) = _; omega) (hm _ List.mem_cons_self)) (cvp 352 (x' := ((ρ 0) + 64 * (ρ 1))) (y' := ((ρ 3))) (by show 0 + (1 * ρ 0 + (64 * ρ 1 + 0)) = _; omega) (by show 0 + (1 * ρ 3 + 0) = _; omega) (hm _ (List.mem_cons_of_mem _ List.mem_cons_self))) (by have h := hF _ List.mem_cons_self; have h : 0 ≤ 0 + ((-1) * ρ 2 + (1 * ρ 3 + 0)) := h; omega) hG
  obtain ⟨k0, -⟩ := H
  exact ⟨_, List.mem_cons_self, ρ, fun _ _ => rfl, (okM_c (pvp 360 (by show 64 + (1 * ρ 0 + (64 * ρ 1 + 0)) = _; omega) (by show 0 + (1 * ρ 2 + 0) = _; omega) k0) okM_n), okB_n, okF_n⟩
-- swc_2
theorem cr_974 (M : pM) (s0 s1 s2 s3 s4 s5 s6 : Int) (b0 : 0 ≤ s0 ∧ s0 ≤ 63) (b1 : 0 ≤ s1 ∧ s1 ≤ 19683) (b2 : 0 ≤ s2 ∧ s2 ≤ 100000) (b3 : 0 ≤ s3 ∧ s3 ≤ 1800000) (b4 : (-2147483648) ≤ s4 ∧ s4 ≤ 2147483647) (b5 : 0 ≤ s5 ∧ s5 ≤ 9) (b6 : 0 ≤ s6 ∧ s6 ≤ 9) (m0 : HP 360 (s0 + 64 * s1) (s2) M) (m1 : HP 352 (s0 + 64 * s1) (s3) M) (m2 : HP 356 (s5) (s4) M) (m3 : (0 ≤ (99 : Int) ∧ M 61 (99 : Int).toNat = (s6))) (f0 : 0 ≤ (s2 + (-1) * s3 - 1)) (f1 : 0 ≤ ((-1) * s1 + s4 - 1)) (f2 : 0 ≤ (s5 + (-1) * s6)) (f3 : 0 ≤ ((-1) * s5 + s6)) (hG : gI M) : (HP 369 (s0 + 64 * s1) (s3) M ∧ True) := by
  obtain ⟨f0, w0, h1, h2, h3⟩ := Eq.mp hp_360 m0
  have ef : f0 = s0.toNat := by omega
  have ew : w0 = s1.toNat := by omega
  subst ef; subst ew
  obtain ⟨f9, w9, l1, l2, l3, l4⟩ := Eq.mp hp_352 m1
  have ef9 : f9 = s0.toNat := by omega
  have ew9 : w9 = s1.toNat := by omega
  subst ef9; subst ew9
  have en : hnR M = s6.toNat := hnR_v (by omega) (by have h : M 61 99 = s6 := m3.2; rw [h]; omega)
  obtain ⟨k0, p1, p2, p3⟩ := Eq.mp hp_356 m2
  have ek : k0 = s5.toNat := by omega
  subst ek
  have q1 : 2 ^ 0 ≤ 2 ^ s5.toNat := Nat.pow_le_pow_right (by decide) (Nat.zero_le _)
  rw [Nat.pow_zero] at q1
  exact ⟨Eq.mpr hp_369 ⟨s0.toNat, s1.toNat, by omega, by omega, by rw [en, show s6.toNat = s5.toNat by omega]; omega, l3, l4, sw_x h3 (by omega)⟩, trivial⟩
theorem rul_974 : Rul r_974 := by
  refine ⟨fun _ ρ M hm hB hF hG => ?_, fun gi gv hg => (by cases hg)⟩
  have H := cr_974 M (ρ 0) (ρ 1) (ρ 2) (ρ 3) (ρ 4) (ρ 5) (ρ 6) (hB _ List.mem_cons_self) (hB _ (List.mem_cons_of_mem _ List.mem_cons_self)) (hB _ (List.mem_cons_of_mem _ (List.mem_cons_of_mem _ List.mem_cons_self))) (hB _ (List.mem_cons_of_mem _ (List.mem_cons_of_mem _ (List.mem_cons_of_mem _ List.mem_cons_self)))) (hB _ (List.mem_cons_of_mem _ (List.mem_cons_of_mem _ (List.mem_cons_of_mem _ (List.mem_cons_of_mem _ List.mem_cons_self))))) (hB _ (List.mem_cons_of_mem _ (List.mem_cons_of_mem _ (List.mem_cons_of_mem _ (List.mem_cons_of_mem _ (List.mem_cons_of_mem _ List.mem_cons_self)))))) (hB _ (List.mem_cons_of_mem _ (List.mem_cons_of_mem _ (List.mem_cons_of_mem _ (List.mem_cons_of_mem _ (List.mem_cons_of_mem _ (List.mem_cons_of_mem _ List.mem_cons_self))))))) (cvp 360 (x' := ((ρ 0) + 64 * (ρ 1))) (y' := ((ρ 2))) (by show 0 + (1 * ρ 0 + (64 * ρ 1 + 0)) = _; omega) (by show 0 + (1 * ρ 2 + 0) = _; omega) (hm _ List.mem_cons_self)) (cvp 352 (x' := ((ρ 0) + 64 * (ρ 1))) (y' := ((ρ 3))) (by show 0 + (1 * ρ 0 + (64 * ρ 1 + 0)) = _; omega) (by show 0 + (1 * ρ 3 + 0) = _; omega) (hm _ (List.mem_cons_of_mem _ List.mem_cons_self))) (cvp 356 (x' := ((ρ 5))) (y' := ((ρ 4))) (by show 0 + (1 * ρ 5 + 0) = _; omega) (by show 0 + (1 * ρ 4 + 0) = _; omega) (hm _ (List.mem_cons_of_mem _ (List.mem_cons_of_mem _ List.mem_cons_self)))) (cvm (c := 61) (by decide) (x' := (99 : Int)) (y' := ((ρ 6))) (by show 99 + 0 = _; omega) (by show 0 + (1 * ρ 6 + 0) = _; omega) (hm _ (List.mem_cons_of_mem _ (List.mem_cons_of_mem _ (List.mem_cons_of_mem _ List.mem_cons_self))))) (by have h := hF _ List.mem_cons_self; have h : 0 ≤ (-1) + (1 * ρ 2 + ((-1) * ρ 3 + 0)) := h; omega) (by have h := hF _ (List.mem_cons_of_mem _ List.mem_cons_self); have h : 0 ≤ (-1) + ((-1) * ρ 1 + (1 * ρ 4 + 0)) := h; omega) (by have h := hF _ (List.mem_cons_of_mem _ (List.mem_cons_of_mem _ List.mem_cons_self)); have h : 0 ≤ 0 + (1 * ρ 5 + ((-1) * ρ 6 + 0)) := h; omega) (by have h := hF _ (List.mem_cons_of_mem _ (List.mem_cons_of_mem _ (List.mem_cons_of_mem _ List.mem_cons_self))); have h : 0 ≤ 0 + ((-1) * ρ 5 + (1 * ρ 6 + 0)) := h; omega) hG
  obtain ⟨k0, -⟩ := H
  exact ⟨_, List.mem_cons_self, ρ, fun _ _ => rfl, (okM_c (pvp 369 (by show 0 + (1 * ρ 0 + (64 * ρ 1 + 0)) = _; omega) (by show 0 + (1 * ρ 3 + 0) = _; omega) k0) okM_n), okB_n, okF_n⟩
-- swe_2
theorem cr_975 (M : pM) (s0 s1 s2 s3 s4 : Int) (b0 : 0 ≤ s0 ∧ s0 ≤ 63) (b1 : 0 ≤ s1 ∧ s1 ≤ 19683) (b2 : 0 ≤ s2 ∧ s2 ≤ 100000) (b3 : 0 ≤ s3 ∧ s3 ≤ 9) (b4 : 0 ≤ s4 ∧ s4 ≤ 9) (m0 : HP 369 (s0 + 64 * s1) (s2) M) (m1 : HP 371 (s3) (0 : Int) M) (m2 : (0 ≤ (99 : Int) ∧ M 61 (99 : Int).toNat = (s4))) (f0 : 0 ≤ (s3 + (-1) * s4)) (hG : gI M) : (HP 360 (s0 + 64 * s1 + 64) (s2) M ∧ True) := by
  obtain ⟨f0, w0, h1, h2, h3, h4, h5, h6⟩ := Eq.mp hp_369 m0
  have ef : f0 = s0.toNat := by omega
  have ew : w0 = s1.toNat := by omega
  subst ef; subst ew
  obtain ⟨c1, c2⟩ := Eq.mp hp_371 m1
  have en : hnR M = s4.toNat := hnR_v (by omega) (by have h : M 61 99 = s4 := m2.2; rw [h]; omega)
  exact ⟨Eq.mpr hp_360 ⟨s0.toNat, s1.toNat + 1, by omega, by omega, sw_e (by decide) h3 h5 h6 (fun o ho => hrow_v (by have := hnR_le (M := M); omega) ((c2 o (by rw [en] at ho; omega)).trans (h4 o ho)))⟩, trivial⟩
theorem rul_975 : Rul r_975 := by
  refine ⟨fun _ ρ M hm hB hF hG => ?_, fun gi gv hg => (by cases hg)⟩
  have H := cr_975 M (ρ 0) (ρ 1) (ρ 2) (ρ 3) (ρ 4) (hB _ List.mem_cons_self) (hB _ (List.mem_cons_of_mem _ List.mem_cons_self)) (hB _ (List.mem_cons_of_mem _ (List.mem_cons_of_mem _ List.mem_cons_self))) (hB _ (List.mem_cons_of_mem _ (List.mem_cons_of_mem _ (List.mem_cons_of_mem _ List.mem_cons_self)))) (hB _ (List.mem_cons_of_mem _ (List.mem_cons_of_mem _ (List.mem_cons_of_mem _ (List.mem_cons_of_mem _ List.mem_cons_self))))) (cvp 369 (x' := ((ρ 0) + 64 * (ρ 1))) (y' := ((ρ 2))) (by show 0 + (1 * ρ 0 + (64 * ρ 1 + 0)) = _; omega) (by show 0 + (1 * ρ 2 + 0) = _; omega) (hm _ List.mem_cons_self)) (cvp 371 (x' := ((ρ 3))) (y' := (0 : Int)) (by show 0 + (1 * ρ 3 + 0) = _; omega) (by show 0 + 0 = _; omega) (hm _ (List.mem_cons_of_mem _ List.mem_cons_self))) (cvm (c := 61) (by decide) (x' := (99 : Int)) (y' := ((ρ 4))) (by show 99 + 0 = _; omega) (by show 0 + (1 * ρ 4 + 0) = _; omega) (hm _ (List.mem_cons_of_mem _ (List.mem_cons_of_mem _ List.mem_cons_self)))) (by have h := hF _ List.mem_cons_self; have h : 0 ≤ 0 + (1 * ρ 3 + ((-1) * ρ 4 + 0)) := h; omega) hG
  obtain ⟨k0, -⟩ := H
  exact ⟨_, List.mem_cons_self, ρ, fun _ _ => rfl, (okM_c (pvp 360 (by show 64 + (1 * ρ 0 + (64 * ρ 1 + 0)) = _; omega) (by show 0 + (1 * ρ 2 + 0) = _; omega) k0) okM_n), okB_n, okF_n⟩
-- swf_2
theorem cr_976 (M : pM) (s0 s1 s2 s3 s4 s5 s6 : Int) (b0 : 0 ≤ s0 ∧ s0 ≤ 63) (b1 : 0 ≤ s1 ∧ s1 ≤ 19683) (b2 : 0 ≤ s2 ∧ s2 ≤ 100000) (b3 : (-2147483648) ≤ s3 ∧ s3 ≤ 2147483647) (b4 : 1 ≤ s4 ∧ s4 ≤ 3) (b5 : 0 ≤ s5 ∧ s5 ≤ 9) (b6 : 0 ≤ s6 ∧ s6 ≤ 9) (m0 : HP 360 (s0 + 64 * s1) (s2) M) (m1 : HP 356 (s5) (s3) M) (m2 : HP 358 (s0 + 64 * s5) (0 : Int) M) (m3 : (0 ≤ (99 : Int) ∧ M 61 (99 : Int).toNat = (s6))) (f0 : 0 ≤ (s1 + (-1) * s3)) (f1 : 0 ≤ (s5 + (-1) * s6)) (f2 : 0 ≤ ((-1) * s5 + s6)) (f3 : 0 ≤ ((-1) * s4 + 2)) (f4 : 0 ≤ (s4 - 2)) (hG : gI M) : (HP 372 (s0 + 64 * s4) (s2) M ∧ HP 358 (s0 + 64 * s6) (0 : Int) M ∧ 0 ≤ ((-1) * s2 + 35640) ∧ True) := by
  obtain ⟨f0, w0, h1, h2, h3⟩ := Eq.mp hp_360 m0
  have ef : f0 = s0.toNat := by omega
  have ew : w0 = s1.toNat := by omega
  subst ef; subst ew
  have en : hnR M = s6.toNat := hnR_v (by omega) (by have h : M 61 99 = s6 := m3.2; rw [h]; omega)
  obtain ⟨k0, p1, p2, p3⟩ := Eq.mp hp_356 m1
  have ek : k0 = s5.toNat := by omega
  subst ek
  have q1 : 2 ^ 0 ≤ 2 ^ s5.toNat := Nat.pow_le_pow_right (by decide) (Nat.zero_le _)
  rw [Nat.pow_zero] at q1
  obtain ⟨f8, n8, g1, g2, g3, hr⟩ := Eq.mp hp_358 m2
  have ef8 : f8 = s0.toNat := by omega
  have en8 : n8 = s5.toNat := by omega
  subst ef8; subst en8
  have k := hj_fin (by decide) (by decide) (by rw [en]; omega) (fun o ho => hr o (by rw [en] at ho; omega)) (fun t ht => by
      have := hnu_lt _ ht
      show hnu 2 t (hnR M) < s1.toNat
      rw [en, show s6.toNat = s5.toNat by omega] at this
      rw [en, show s6.toNat = s5.toNat by omega]
      omega) h3
  exact ⟨Eq.mpr hp_372 ⟨s0.toNat, 2, by omega, by decide, by decide, by omega, k.2.1, k.2.2.1, k.2.2.2.1, k.2.2.2.2⟩, Eq.mpr hp_358 ⟨s0.toNat, s5.toNat, by omega, by omega, by omega, hr⟩, by omega, trivial⟩
theorem rul_976 : Rul r_976 := by
  refine ⟨fun _ ρ M hm hB hF hG => ?_, fun gi gv hg => (by cases hg)⟩
  have H := cr_976 M (ρ 0) (ρ 1) (ρ 2) (ρ 3) (ρ 4) (ρ 5) (ρ 6) (hB _ List.mem_cons_self) (hB _ (List.mem_cons_of_mem _ List.mem_cons_self)) (hB _ (List.mem_cons_of_mem _ (List.mem_cons_of_mem _ List.mem_cons_self))) (hB _ (List.mem_cons_of_mem _ (List.mem_cons_of_mem _ (List.mem_cons_of_mem _ List.mem_cons_self)))) (hB _ (List.mem_cons_of_mem _ (List.mem_cons_of_mem _ (List.mem_cons_of_mem _ (List.mem_cons_of_mem _ List.mem_cons_self))))) (hB _ (List.mem_cons_of_mem _ (List.mem_cons_of_mem _ (List.mem_cons_of_mem _ (List.mem_cons_of_mem _ (List.mem_cons_of_mem _ List.mem_cons_self)))))) (hB _ (List.mem_cons_of_mem _ (List.mem_cons_of_mem _ (List.mem_cons_of_mem _ (List.mem_cons_of_mem _ (List.mem_cons_of_mem _ (List.mem_cons_of_mem _ List.mem_cons_self))))))) (cvp 360 (x' := ((ρ 0) + 64 * (ρ 1))) (y' := ((ρ 2))) (by show 0 + (1 * ρ 0 + (64 * ρ 1 + 0)) = _; omega) (by show 0 + (1 * ρ 2 + 0) = _; omega) (hm _ List.mem_cons_self)) (cvp 356 (x' := ((ρ 5))) (y' := ((ρ 3))) (by show 0 + (1 * ρ 5 + 0) = _; omega) (by show 0 + (1 * ρ 3 + 0) = _; omega) (hm _ (List.mem_cons_of_mem _ List.mem_cons_self))) (cvp 358 (x' := ((ρ 0) + 64 * (ρ 5))) (y' := (0 : Int)) (by show 0 + (1 * ρ 0 + (64 * ρ 5 + 0)) = _; omega) (by show 0 + 0 = _; omega) (hm _ (List.mem_cons_of_mem _ (List.mem_cons_of_mem _ List.mem_cons_self)))) (cvm (c := 61) (by decide) (x' := (99 : Int)) (y' := ((ρ 6))) (by show 99 + 0 = _; omega) (by show 0 + (1 * ρ 6 + 0) = _; omega) (hm _ (List.mem_cons_of_mem _ (List.mem_cons_of_mem _ (List.mem_cons_of_mem _ List.mem_cons_self))))) (by have h := hF _ List.mem_cons_self; have h : 0 ≤ 0 + (1 * ρ 1 + ((-1) * ρ 3 + 0)) := h; omega) (by have h := hF _ (List.mem_cons_of_mem _ List.mem_cons_self); have h : 0 ≤ 0 + (1 * ρ 5 + ((-1) * ρ 6 + 0)) := h; omega) (by have h := hF _ (List.mem_cons_of_mem _ (List.mem_cons_of_mem _ List.mem_cons_self)); have h : 0 ≤ 0 + ((-1) * ρ 5 + (1 * ρ 6 + 0)) := h; omega) (by have h := hF _ (List.mem_cons_of_mem _ (List.mem_cons_of_mem _ (List.mem_cons_of_mem _ List.mem_cons_self))); have h : 0 ≤ 2 + ((-1) * ρ 4 + 0) := h; omega) (by have h := hF _ (List.mem_cons_of_mem _ (List.mem_cons_of_mem _ (List.mem_cons_of_mem _ (List.mem_cons_of_mem _ List.mem_cons_self)))); have h : 0 ≤ (-2) + (1 * ρ 4 + 0) := h; omega) hG
  obtain ⟨k0, k1, f0, -⟩ := H
  exact ⟨_, List.mem_cons_self, ρ, fun _ _ => rfl, (okM_c (pvp 372 (by show 0 + (1 * ρ 0 + (64 * ρ 4 + 0)) = _; omega) (by show 0 + (1 * ρ 2 + 0) = _; omega) k0) (okM_c (pvp 358 (by show 0 + (1 * ρ 0 + (64 * ρ 6 + 0)) = _; omega) (by show 0 + 0 = _; omega) k1) okM_n)), okB_n, (okF_c (by show 0 ≤ 35640 + ((-1) * ρ 2 + 0); omega) okF_n)⟩
-- lh0_3
theorem cr_977 (M : pM) (s0 s1 s2 s3 : Int) (b0 : 0 ≤ s0 ∧ s0 ≤ 63) (b1 : 0 ≤ s1 ∧ s1 ≤ 19683) (b2 : 0 ≤ s2 ∧ s2 ≤ 9) (b3 : 0 ≤ s3 ∧ s3 ≤ 3) (m0 : HP 367 (s3) (0 : Int) M) (m1 : (0 ≤ (99 : Int) ∧ M 61 (99 : Int).toNat = (s2))) (f0 : 0 ≤ (s3 - 3)) (hG : gI M) : (HP 347 (s0 + 1024 * s1 + 64 * s2) (s1) M ∧ True) := by
  obtain ⟨h1, h2⟩ := Eq.mp hp_367 m0
  have en : hnR M = s2.toNat := hnR_v (by omega) (by have h : M 61 99 = s2 := m1.2; rw [h]; omega)
  exact ⟨Eq.mpr hp_347 ⟨s0.toNat, s2.toNat, s1.toNat, by omega, by omega, by omega, by rw [en, Nat.sub_self, Nat.pow_zero, Nat.div_one]; omega, fun i hi hj => by omega, fun a ha => by rw [h2 a (by omega), en]; omega⟩, trivial⟩
theorem rul_977 : Rul r_977 := by
  refine ⟨fun _ ρ M hm hB hF hG => ?_, fun gi gv hg => (by cases hg)⟩
  have H := cr_977 M (ρ 0) (ρ 1) (ρ 2) (ρ 3) (hB _ List.mem_cons_self) (hB _ (List.mem_cons_of_mem _ List.mem_cons_self)) (hB _ (List.mem_cons_of_mem _ (List.mem_cons_of_mem _ List.mem_cons_self))) (hB _ (List.mem_cons_of_mem _ (List.mem_cons_of_mem _ (List.mem_cons_of_mem _ List.mem_cons_self)))) (cvp 367 (x' := ((ρ 3))) (y' := (0 : Int)) (by show 0 + (1 * ρ 3 + 0) = _; omega) (by show 0 + 0 = _; omega) (hm _ List.mem_cons_self)) (cvm (c := 61) (by decide) (x' := (99 : Int)) (y' := ((ρ 2))) (by show 99 + 0 = _; omega) (by show 0 + (1 * ρ 2 + 0) = _; omega) (hm _ (List.mem_cons_of_mem _ List.mem_cons_self))) (by have h := hF _ List.mem_cons_self; have h : 0 ≤ (-3) + (1 * ρ 3 + 0) := h; omega) hG
  obtain ⟨k0, -⟩ := H
  exact ⟨_, List.mem_cons_self, ρ, fun _ _ => rfl, (okM_c (pvp 347 (by show 0 + (1 * ρ 0 + (1024 * ρ 1 + (64 * ρ 2 + 0))) = _; omega) (by show 0 + (1 * ρ 1 + 0) = _; omega) k0) okM_n), okB_n, okF_n⟩
-- lhw_3
theorem cr_978 (M : pM) (s0 s1 s2 s3 s4 s5 s6 : Int) (b0 : 0 ≤ s0 ∧ s0 ≤ 63) (b1 : 0 ≤ s1 ∧ s1 ≤ 19683) (b2 : 0 ≤ s2 ∧ s2 ≤ 8) (b3 : 0 ≤ s3 ∧ s3 ≤ 19683) (b4 : (-2147483648) ≤ s4 ∧ s4 ≤ 2147483647) (b5 : 0 ≤ s5 ∧ s5 ≤ 2) (b6 : 0 ≤ s6 ∧ s6 ≤ 9) (m0 : HP 347 (s0 + 1024 * s1 + 64 * s2 + 64) (s3) M) (m1 : (0 ≤ (99 : Int) ∧ M 61 (99 : Int).toNat = (s6))) (f0 : 0 ≤ ((-1) * s3 + 3 * s4 + s5)) (f1 : 0 ≤ (s3 + (-3) * s4 + (-1) * s5)) (f2 : 0 ≤ ((-1) * s2 + s6 - 1)) (hG : gI M) : (HP 350 (s0 + 1024 * s1 + 64 * s2 + 64) (s3) (st M 117 (s2).toNat (s5)) ∧ True) := by
  obtain ⟨f0, o0, w0, h1, h2, h3, h4, h5, h6⟩ := Eq.mp hp_347 m0
  have hn9 := hnR_le (M := M)
  have ef : f0 = s0.toNat := by omega
  have eo : o0 = s2.toNat + 1 := by omega
  have ew : w0 = s1.toNat := by omega
  subst ef; subst eo; subst ew
  have en : hnR M = s6.toNat := hnR_v (by omega) (by have h : M 61 99 = s6 := m1.2; rw [h]; omega)
  have hd := (hdg_q (T := 3) (n := hnR M) (w := s1.toNat) (o := s2.toNat) (by omega)).2
  have hr : (s5) = ((hdg 3 (hnR M) s1.toNat s2.toNat : Nat) : Int) := by
    rw [hd]
    omega
  refine ⟨Eq.mpr hp_350 ⟨s0.toNat, s2.toNat, s1.toNat, by omega, by rw [hnR_st (by decide)]; omega, by omega, by rw [hnR_st (by decide)]; exact h4, fun i hi hj => ?_, fun a ha => ?_⟩, trivial⟩
  · rw [hnR_st (by decide)] at hj ⊢
    rw [hst_v]
    by_cases e : i = s2.toNat
    · rw [if_pos (by omega), e]
      exact hr
    · rw [if_neg (by omega)]
      exact h5 i (by omega) hj
  · rw [hnR_st (by decide), hmR_st (by omega) (by decide) (by decide)]
    exact (show st M 117 (s2).toNat (s5) 118 a = M 118 a from if_neg (by omega)).trans (h6 a ha)
theorem rul_978 : Rul r_978 := by
  refine ⟨fun h => (by cases h), fun gi gv hg ρ M hm hB hF hG => ?_⟩
  obtain ⟨g1, g2⟩ := List.cons.inj (show ([aI ((0 : Int), ([(2, 1)] : List (Nat × Int))), aI ((0 : Int), ([(5, 1)] : List (Nat × Int)))] : List av) = [.inl gi, .inl gv] from hg)
  obtain ⟨g2, -⟩ := List.cons.inj g2
  cases g1
  cases g2
  have ei : ev ρ ((0 : Int), ([(2, 1)] : List (Nat × Int))) = ((ρ 2)) := by show 0 + (1 * ρ 2 + 0) = _; omega
  have ew : ev ρ ((0 : Int), ([(5, 1)] : List (Nat × Int))) = ((ρ 5)) := by show 0 + (1 * ρ 5 + 0) = _; omega
  rw [show (st M (ctj r_978) (ev ρ ((0 : Int), ([(2, 1)] : List (Nat × Int)))).toNat (ev ρ ((0 : Int), ([(5, 1)] : List (Nat × Int))))) = (st M 117 ((ρ 2)).toNat ((ρ 5))) from by rw [ei, ew]; rfl]
  have H := cr_978 M (ρ 0) (ρ 1) (ρ 2) (ρ 3) (ρ 4) (ρ 5) (ρ 6) (hB _ List.mem_cons_self) (hB _ (List.mem_cons_of_mem _ List.mem_cons_self)) (hB _ (List.mem_cons_of_mem _ (List.mem_cons_of_mem _ List.mem_cons_self))) (hB _ (List.mem_cons_of_mem _ (List.mem_cons_of_mem _ (List.mem_cons_of_mem _ List.mem_cons_self)))) (hB _ (List.mem_cons_of_mem _ (List.mem_cons_of_mem _ (List.mem_cons_of_mem _ (List.mem_cons_of_mem _ List.mem_cons_self))))) (hB _ (List.mem_cons_of_mem _ (List.mem_cons_of_mem _ (List.mem_cons_of_mem _ (List.mem_cons_of_mem _ (List.mem_cons_of_mem _ List.mem_cons_self)))))) (hB _ (List.mem_cons_of_mem _ (List.mem_cons_of_mem _ (List.mem_cons_of_mem _ (List.mem_cons_of_mem _ (List.mem_cons_of_mem _ (List.mem_cons_of_mem _ List.mem_cons_self))))))) (cvp 347 (x' := ((ρ 0) + 1024 * (ρ 1) + 64 * (ρ 2) + 64)) (y' := ((ρ 3))) (by show 64 + (1 * ρ 0 + (1024 * ρ 1 + (64 * ρ 2 + 0))) = _; omega) (by show 0 + (1 * ρ 3 + 0) = _; omega) (hm _ List.mem_cons_self)) (cvm (c := 61) (by decide) (x' := (99 : Int)) (y' := ((ρ 6))) (by show 99 + 0 = _; omega) (by show 0 + (1 * ρ 6 + 0) = _; omega) (hm _ (List.mem_cons_of_mem _ List.mem_cons_self))) (by have h := hF _ List.mem_cons_self; have h : 0 ≤ 0 + ((-1) * ρ 3 + (3 * ρ 4 + (1 * ρ 5 + 0))) := h; omega) (by have h := hF _ (List.mem_cons_of_mem _ List.mem_cons_self); have h : 0 ≤ 0 + (1 * ρ 3 + ((-3) * ρ 4 + ((-1) * ρ 5 + 0))) := h; omega) (by have h := hF _ (List.mem_cons_of_mem _ (List.mem_cons_of_mem _ List.mem_cons_self)); have h : 0 ≤ (-1) + ((-1) * ρ 2 + (1 * ρ 6 + 0)) := h; omega) hG
  obtain ⟨k0, -⟩ := H
  exact ⟨_, List.mem_cons_self, ρ, fun _ _ => rfl, (okM_c (pvp 350 (by show 64 + (1 * ρ 0 + (1024 * ρ 1 + (64 * ρ 2 + 0))) = _; omega) (by show 0 + (1 * ρ 3 + 0) = _; omega) k0) okM_n), okB_n, okF_n⟩
-- lhb_3
theorem cr_979 (M : pM) (s0 s1 s2 s3 s4 s5 : Int) (b0 : 0 ≤ s0 ∧ s0 ≤ 63) (b1 : 0 ≤ s1 ∧ s1 ≤ 19683) (b2 : 0 ≤ s2 ∧ s2 ≤ 8) (b3 : 0 ≤ s3 ∧ s3 ≤ 19683) (b4 : 0 ≤ s4 ∧ s4 ≤ 2) (b5 : (-2147483648) ≤ s5 ∧ s5 ≤ 2147483647) (m0 : HP 350 (s0 + 1024 * s1 + 64 * s2 + 64) (s3) M) (m1 : (0 ≤ (s4) ∧ M 118 (s4).toNat = (s5))) (hG : gI M) : (0 ≤ (s5) ∧ 0 ≤ ((-1) * s5 + 1600000) ∧ True) := by
  obtain ⟨f0, o0, w0, h1, h2, h3, h4, h5, h6⟩ := Eq.mp hp_350 m0
  have hn9 := hnR_le (M := M)
  have ef : f0 = s0.toNat := by omega
  have eo : o0 = s2.toNat := by omega
  have ew : w0 = s1.toNat := by omega
  subst ef; subst eo; subst ew
  have k := hps_d (t := hdg 3 (hnR M) s1.toNat) (a := s4.toNat) (g := s2.toNat + 1) (K := 200000) (hmR_0 hG (f := s0.toNat) (by omega)) (hnR M - (s2.toNat + 1))
  rw [show s2.toNat + 1 + (hnR M - (s2.toNat + 1)) = hnR M by omega] at k
  have k2 := h6 s4.toNat (by omega)
  rw [m1.2] at k2
  exact ⟨by omega, by omega, trivial⟩
theorem rul_979 : Rul r_979 := by
  refine ⟨fun _ ρ M hm hB hF hG => ?_, fun gi gv hg => (by cases hg)⟩
  have H := cr_979 M (ρ 0) (ρ 1) (ρ 2) (ρ 3) (ρ 4) (ρ 5) (hB _ List.mem_cons_self) (hB _ (List.mem_cons_of_mem _ List.mem_cons_self)) (hB _ (List.mem_cons_of_mem _ (List.mem_cons_of_mem _ List.mem_cons_self))) (hB _ (List.mem_cons_of_mem _ (List.mem_cons_of_mem _ (List.mem_cons_of_mem _ List.mem_cons_self)))) (hB _ (List.mem_cons_of_mem _ (List.mem_cons_of_mem _ (List.mem_cons_of_mem _ (List.mem_cons_of_mem _ List.mem_cons_self))))) (hB _ (List.mem_cons_of_mem _ (List.mem_cons_of_mem _ (List.mem_cons_of_mem _ (List.mem_cons_of_mem _ (List.mem_cons_of_mem _ List.mem_cons_self)))))) (cvp 350 (x' := ((ρ 0) + 1024 * (ρ 1) + 64 * (ρ 2) + 64)) (y' := ((ρ 3))) (by show 64 + (1 * ρ 0 + (1024 * ρ 1 + (64 * ρ 2 + 0))) = _; omega) (by show 0 + (1 * ρ 3 + 0) = _; omega) (hm _ List.mem_cons_self)) (cvm (c := 118) (by decide) (x' := ((ρ 4))) (y' := ((ρ 5))) (by show 0 + (1 * ρ 4 + 0) = _; omega) (by show 0 + (1 * ρ 5 + 0) = _; omega) (hm _ (List.mem_cons_of_mem _ List.mem_cons_self))) hG
  obtain ⟨f0, f1, -⟩ := H
  exact ⟨_, List.mem_cons_self, ρ, fun _ _ => rfl, okM_n, okB_n, (okF_c (by show 0 ≤ 0 + (1 * ρ 5 + 0); omega) (okF_c (by show 0 ≤ 1600000 + ((-1) * ρ 5 + 0); omega) okF_n))⟩
-- lhx_3
theorem cr_980 (M : pM) (s0 s1 s2 s3 s4 s5 s6 s7 s8 s9 s10 : Int) (b0 : 0 ≤ s0 ∧ s0 ≤ 63) (b1 : 0 ≤ s1 ∧ s1 ≤ 19683) (b2 : 0 ≤ s2 ∧ s2 ≤ 8) (b3 : 0 ≤ s3 ∧ s3 ≤ 19683) (b4 : (-2147483648) ≤ s4 ∧ s4 ≤ 2147483647) (b5 : 0 ≤ s5 ∧ s5 ≤ 2) (b6 : 0 ≤ s6 ∧ s6 ≤ 2) (b7 : (-2147483648) ≤ s7 ∧ s7 ≤ 2147483647) (b8 : 0 ≤ s8 ∧ s8 ≤ 63) (b9 : 0 ≤ s9 ∧ s9 ≤ 100000) (b10 : 0 ≤ s10 ∧ s10 ≤ 9) (m0 : HP 350 (s0 + 1024 * s1 + 64 * s2 + 64) (s3) M) (m1 : (0 ≤ (s2) ∧ M 117 (s2).toNat = (s6))) (m2 : (0 ≤ (s6) ∧ M 118 (s6).toNat = (s7))) (m3 : (0 ≤ (s2) ∧ M 115 (s2).toNat = (s8))) (m4 : (0 ≤ (64 * s0 + s8) ∧ M 114 (64 * s0 + s8).toNat = (s9))) (m5 : (0 ≤ (99 : Int) ∧ M 61 (99 : Int).toNat = (s10))) (f0 : 0 ≤ ((-1) * s3 + 3 * s4 + s5)) (f1 : 0 ≤ (s3 + (-3) * s4 + (-1) * s5)) (f2 : 0 ≤ ((-1) * s2 + s10 - 1)) (hG : gI M) : (HP 347 (s0 + 1024 * s1 + 64 * s2) (s4) (st M 118 (s6).toNat (s7 + 2 * s9)) ∧ True) := by
  obtain ⟨f0, o0, w0, h1, h2, h3, h4, h5, h6⟩ := Eq.mp hp_350 m0
  have hn9 := hnR_le (M := M)
  have ef : f0 = s0.toNat := by omega
  have eo : o0 = s2.toNat := by omega
  have ew : w0 = s1.toNat := by omega
  subst ef; subst eo; subst ew
  have en : hnR M = s10.toNat := hnR_v (by omega) (by have h : M 61 99 = s10 := m5.2; rw [h]; omega)
  have hm := hmR_v (f := s0.toNat) (o := s2.toNat) (c := s8.toNat) (by omega) (by omega) (m3.2.trans (by omega)) (show M 114 (64 * s0.toNat + s8.toNat) = s9 by rw [show 64 * s0.toNat + s8.toNat = (64 * s0 + s8).toNat by omega]; exact m4.2)
  have hr := h5 s2.toNat (Nat.le_refl _) (by omega)
  rw [m1.2] at hr
  obtain ⟨hq, -⟩ := hdg_q (T := 3) (n := hnR M) (w := s1.toNat) (o := s2.toNat) (by omega)
  refine ⟨Eq.mpr hp_347 ⟨s0.toNat, s2.toNat, s1.toNat, by omega, by rw [hnR_st (by decide)]; omega, by omega, by rw [hnR_st (by decide), hq]; omega, fun i hi hj => ?_, fun a ha => ?_⟩, trivial⟩
  · rw [hnR_st (by decide)] at hj ⊢
    exact (show st M 118 (s6).toNat (s7 + 2 * s9) 117 i = M 117 i from if_neg (by omega)).trans (h5 i hi hj)
  · rw [hnR_st (by decide), hmR_st (by omega) (by decide) (by decide), hst_v]
    have k1 := h6 a ha
    have k2 : hps (hmR s0.toNat M) (hdg 3 (hnR M) s1.toNat) a (s2.toNat + 1) = hps (hmR s0.toNat M) (hdg 3 (hnR M) s1.toNat) a s2.toNat + (if hdg 3 (hnR M) s1.toNat s2.toNat = a then hmR s0.toNat M s2.toNat else 0) := rfl
    rw [hm] at k2
    by_cases e : a = s6.toNat
    · rw [if_pos e]
      rw [if_pos (by omega)] at k2
      rw [e, m2.2, ← e] at k1
      omega
    · rw [if_neg e]
      rw [if_neg (by omega)] at k2
      omega
theorem rul_980 : Rul r_980 := by
  refine ⟨fun h => (by cases h), fun gi gv hg ρ M hm hB hF hG => ?_⟩
  obtain ⟨g1, g2⟩ := List.cons.inj (show ([aI ((0 : Int), ([(6, 1)] : List (Nat × Int))), aI ((0 : Int), ([(7, 1), (9, 2)] : List (Nat × Int)))] : List av) = [.inl gi, .inl gv] from hg)
  obtain ⟨g2, -⟩ := List.cons.inj g2
  cases g1
  cases g2
  have ei : ev ρ ((0 : Int), ([(6, 1)] : List (Nat × Int))) = ((ρ 6)) := by show 0 + (1 * ρ 6 + 0) = _; omega
  have ew : ev ρ ((0 : Int), ([(7, 1), (9, 2)] : List (Nat × Int))) = ((ρ 7) + 2 * (ρ 9)) := by show 0 + (1 * ρ 7 + (2 * ρ 9 + 0)) = _; omega
  rw [show (st M (ctj r_980) (ev ρ ((0 : Int), ([(6, 1)] : List (Nat × Int)))).toNat (ev ρ ((0 : Int), ([(7, 1), (9, 2)] : List (Nat × Int))))) = (st M 118 ((ρ 6)).toNat ((ρ 7) + 2 * (ρ 9))) from by rw [ei, ew]; rfl]
  have H := cr_980 M (ρ 0) (ρ 1) (ρ 2) (ρ 3) (ρ 4) (ρ 5) (ρ 6) (ρ 7) (ρ 8) (ρ 9) (ρ 10) (hB _ List.mem_cons_self) (hB _ (List.mem_cons_of_mem _ List.mem_cons_self)) (hB _ (List.mem_cons_of_mem _ (List.mem_cons_of_mem _ List.mem_cons_self))) (hB _ (List.mem_cons_of_mem _ (List.mem_cons_of_mem _ (List.mem_cons_of_mem _ List.mem_cons_self)))) (hB _ (List.mem_cons_of_mem _ (List.mem_cons_of_mem _ (List.mem_cons_of_mem _ (List.mem_cons_of_mem _ List.mem_cons_self))))) (hB _ (List.mem_cons_of_mem _ (List.mem_cons_of_mem _ (List.mem_cons_of_mem _ (List.mem_cons_of_mem _ (List.mem_cons_of_mem _ List.mem_cons_self)))))) (hB _ (List.mem_cons_of_mem _ (List.mem_cons_of_mem _ (List.mem_cons_of_mem _ (List.mem_cons_of_mem _ (List.mem_cons_of_mem _ (List.mem_cons_of_mem _ List.mem_cons_self))))))) (hB _ (List.mem_cons_of_mem _ (List.mem_cons_of_mem _ (List.mem_cons_of_mem _ (List.mem_cons_of_mem _ (List.mem_cons_of_mem _ (List.mem_cons_of_mem _ (List.mem_cons_of_mem _ List.mem_cons_self)))))))) (hB _ (List.mem_cons_of_mem _ (List.mem_cons_of_mem _ (List.mem_cons_of_mem _ (List.mem_cons_of_mem _ (List.mem_cons_of_mem _ (List.mem_cons_of_mem _ (List.mem_cons_of_mem _ (List.mem_cons_of_mem _ List.mem_cons_self))))))))) (hB _ (List.mem_cons_of_mem _ (List.mem_cons_of_mem _ (List.mem_cons_of_mem _ (List.mem_cons_of_mem _ (List.mem_cons_of_mem _ (List.mem_cons_of_mem _ (List.mem_cons_of_mem _ (List.mem_cons_of_mem _ (List.mem_cons_of_mem _ List.mem_cons_self)))))))))) (hB _ (List.mem_cons_of_mem _ (List.mem_cons_of_mem _ (List.mem_cons_of_mem _ (List.mem_cons_of_mem _ (List.mem_cons_of_mem _ (List.mem_cons_of_mem _ (List.mem_cons_of_mem _ (List.mem_cons_of_mem _ (List.mem_cons_of_mem _ (List.mem_cons_of_mem _ List.mem_cons_self))))))))))) (cvp 350 (x' := ((ρ 0) + 1024 * (ρ 1) + 64 * (ρ 2) + 64)) (y' := ((ρ 3))) (by show 64 + (1 * ρ 0 + (1024 * ρ 1 + (64 * ρ 2 + 0))) = _; omega) (by show 0 + (1 * ρ 3 + 0) = _; omega) (hm _ List.mem_cons_self)) (cvm (c := 117) (by decide) (x' := ((ρ 2))) (y' := ((ρ 6))) (by show 0 + (1 * ρ 2 + 0) = _; omega) (by show 0 + (1 * ρ 6 + 0) = _; omega) (hm _ (List.mem_cons_of_mem _ List.mem_cons_self))) (cvm (c := 118) (by decide) (x' := ((ρ 6))) (y' := ((ρ 7))) (by show 0 + (1 * ρ 6 + 0) = _; omega) (by show 0 + (1 * ρ 7 + 0) = _; omega) (hm _ (List.mem_cons_of_mem _ (List.mem_cons_of_mem _ List.mem_cons_self)))) (cvm (c := 115) (by decide) (x' := ((ρ 2))) (y' := ((ρ 8))) (by show 0 + (1 * ρ 2 + 0) = _; omega) (by show 0 + (1 * ρ 8 + 0) = _; omega) (hm _ (List.mem_cons_of_mem _ (List.mem_cons_of_mem _ (List.mem_cons_of_mem _ List.mem_cons_self))))) (cvm (c := 114) (by decide) (x' := (64 * (ρ 0) + (ρ 8))) (y' := ((ρ 9))) (by show 0 + (64 * ρ 0 + (1 * ρ 8 + 0)) = _; omega) (by show 0 + (1 * ρ 9 + 0) = _; omega) (hm _ (List.mem_cons_of_mem _ (List.mem_cons_of_mem _ (List.mem_cons_of_mem _ (List.mem_cons_of_mem _ List.mem_cons_self)))))) (cvm (c := 61) (by decide) (x' := (99 : Int)) (y' := ((ρ 10))) (by show 99 + 0 = _; omega) (by show 0 + (1 * ρ 10 + 0) = _; omega) (hm _ (List.mem_cons_of_mem _ (List.mem_cons_of_mem _ (List.mem_cons_of_mem _ (List.mem_cons_of_mem _ (List.mem_cons_of_mem _ List.mem_cons_self))))))) (by have h := hF _ List.mem_cons_self; have h : 0 ≤ 0 + ((-1) * ρ 3 + (3 * ρ 4 + (1 * ρ 5 + 0))) := h; omega) (by have h := hF _ (List.mem_cons_of_mem _ List.mem_cons_self); have h : 0 ≤ 0 + (1 * ρ 3 + ((-3) * ρ 4 + ((-1) * ρ 5 + 0))) := h; omega) (by have h := hF _ (List.mem_cons_of_mem _ (List.mem_cons_of_mem _ List.mem_cons_self)); have h : 0 ≤ (-1) + ((-1) * ρ 2 + (1 * ρ 10 + 0)) := h; omega) hG
  obtain ⟨k0, -⟩ := H
  exact ⟨_, List.mem_cons_self, ρ, fun _ _ => rfl, (okM_c (pvp 347 (by show 0 + (1 * ρ 0 + (1024 * ρ 1 + (64 * ρ 2 + 0))) = _; omega) (by show 0 + (1 * ρ 4 + 0) = _; omega) k0) okM_n), okB_n, okF_n⟩
-- lhn_3
theorem cr_981 (M : pM) (s0 s1 s2 s3 : Int) (b0 : 0 ≤ s0 ∧ s0 ≤ 63) (b1 : 0 ≤ s1 ∧ s1 ≤ 19683) (b2 : 0 ≤ s2 ∧ s2 ≤ 19683) (b3 : 0 ≤ s3 ∧ s3 ≤ 9) (m0 : HP 347 (s0 + 1024 * s1 + 64 * s3) (s2) M) (f0 : 0 ≤ ((-1) * s3)) (hG : gI M) : (HP 347 (s0 + 1024 * s1) (s2) M ∧ True) := by
  obtain ⟨f0, o0, w0, h1, h2, h3, h4, h5, h6⟩ := Eq.mp hp_347 m0
  exact ⟨Eq.mpr hp_347 ⟨f0, o0, w0, h1, h2, by omega, h4, h5, h6⟩, trivial⟩
theorem rul_981 : Rul r_981 := by
  refine ⟨fun _ ρ M hm hB hF hG => ?_, fun gi gv hg => (by cases hg)⟩
  have H := cr_981 M (ρ 0) (ρ 1) (ρ 2) (ρ 3) (hB _ List.mem_cons_self) (hB _ (List.mem_cons_of_mem _ List.mem_cons_self)) (hB _ (List.mem_cons_of_mem _ (List.mem_cons_of_mem _ List.mem_cons_self))) (hB _ (List.mem_cons_of_mem _ (List.mem_cons_of_mem _ (List.mem_cons_of_mem _ List.mem_cons_self)))) (cvp 347 (x' := ((ρ 0) + 1024 * (ρ 1) + 64 * (ρ 3))) (y' := ((ρ 2))) (by show 0 + (1 * ρ 0 + (1024 * ρ 1 + (64 * ρ 3 + 0))) = _; omega) (by show 0 + (1 * ρ 2 + 0) = _; omega) (hm _ List.mem_cons_self)) (by have h := hF _ List.mem_cons_self; have h : 0 ≤ 0 + ((-1) * ρ 3 + 0) := h; omega) hG
  obtain ⟨k0, -⟩ := H
  exact ⟨_, List.mem_cons_self, ρ, fun _ _ => rfl, (okM_c (pvp 347 (by show 0 + (1 * ρ 0 + (1024 * ρ 1 + 0)) = _; omega) (by show 0 + (1 * ρ 2 + 0) = _; omega) k0) okM_n), okB_n, okF_n⟩
-- lmb_3
theorem cr_982 (M : pM) (s0 s1 s2 s3 s4 : Int) (b0 : 0 ≤ s0 ∧ s0 ≤ 63) (b1 : 0 ≤ s1 ∧ s1 ≤ 19683) (b2 : 0 ≤ s2 ∧ s2 ≤ 19683) (b3 : 0 ≤ s3 ∧ s3 ≤ 2) (b4 : (-2147483648) ≤ s4 ∧ s4 ≤ 2147483647) (m0 : HP 347 (s0 + 1024 * s1) (s2) M) (m1 : (0 ≤ (s3) ∧ M 118 (s3).toNat = (s4))) (hG : gI M) : (0 ≤ (s4) ∧ 0 ≤ ((-1) * s4 + 1800000) ∧ True) := by
  obtain ⟨f0, o0, w0, h1, h2, h3, h4, h5, h6⟩ := Eq.mp hp_347 m0
  have hn9 := hnR_le (M := M)
  have ef : f0 = s0.toNat := by omega
  have eo : o0 = 0 := by omega
  have ew : w0 = s1.toNat := by omega
  subst ef; subst eo; subst ew
  have k := hps_d (t := hdg 3 (hnR M) s1.toNat) (a := s3.toNat) (g := 0) (K := 200000) (hmR_0 hG (f := s0.toNat) (by omega)) (hnR M)
  rw [Nat.zero_add] at k
  have k2 := h6 s3.toNat (by omega)
  rw [m1.2] at k2
  exact ⟨by omega, by omega, trivial⟩
theorem rul_982 : Rul r_982 := by
  refine ⟨fun _ ρ M hm hB hF hG => ?_, fun gi gv hg => (by cases hg)⟩
  have H := cr_982 M (ρ 0) (ρ 1) (ρ 2) (ρ 3) (ρ 4) (hB _ List.mem_cons_self) (hB _ (List.mem_cons_of_mem _ List.mem_cons_self)) (hB _ (List.mem_cons_of_mem _ (List.mem_cons_of_mem _ List.mem_cons_self))) (hB _ (List.mem_cons_of_mem _ (List.mem_cons_of_mem _ (List.mem_cons_of_mem _ List.mem_cons_self)))) (hB _ (List.mem_cons_of_mem _ (List.mem_cons_of_mem _ (List.mem_cons_of_mem _ (List.mem_cons_of_mem _ List.mem_cons_self))))) (cvp 347 (x' := ((ρ 0) + 1024 * (ρ 1))) (y' := ((ρ 2))) (by show 0 + (1 * ρ 0 + (1024 * ρ 1 + 0)) = _; omega) (by show 0 + (1 * ρ 2 + 0) = _; omega) (hm _ List.mem_cons_self)) (cvm (c := 118) (by decide) (x' := ((ρ 3))) (y' := ((ρ 4))) (by show 0 + (1 * ρ 3 + 0) = _; omega) (by show 0 + (1 * ρ 4 + 0) = _; omega) (hm _ (List.mem_cons_of_mem _ List.mem_cons_self))) hG
  obtain ⟨f0, f1, -⟩ := H
  exact ⟨_, List.mem_cons_self, ρ, fun _ _ => rfl, okM_n, okB_n, (okF_c (by show 0 ≤ 0 + (1 * ρ 4 + 0); omega) (okF_c (by show 0 ≤ 1800000 + ((-1) * ρ 4 + 0); omega) okF_n))⟩
-- lce_3
theorem cr_983 (M : pM) (s0 s1 s2 s3 s4 : Int) (b0 : 0 ≤ s0 ∧ s0 ≤ 63) (b1 : 0 ≤ s1 ∧ s1 ≤ 19683) (b2 : 0 ≤ s2 ∧ s2 ≤ 19683) (b3 : 0 ≤ s3 ∧ s3 ≤ 3) (b4 : 0 ≤ s4 ∧ s4 ≤ 1800000) (m0 : HP 347 (s0 + 1024 * s1) (s2) M) (m1 : HP 354 (s3) (s4) M) (f0 : 0 ≤ (s3 - 3)) (hG : gI M) : (HP 353 (s0 + 64 * s1) (s4) M ∧ True) := by
  obtain ⟨f0, o0, w0, h1, h2, h3, h4, h5, h6⟩ := Eq.mp hp_347 m0
  have hn9 := hnR_le (M := M)
  have ef : f0 = s0.toNat := by omega
  have eo : o0 = 0 := by omega
  have ew : w0 = s1.toNat := by omega
  subst ef; subst eo; subst ew
  obtain ⟨r1, r2, r3, r4⟩ := Eq.mp hp_354 m1
  have h6 : ∀ a : Nat, a < 3 → M 118 a = hps (hmR s0.toNat M) (hdg 3 (hnR M) s1.toNat) a (hnR M) := fun a ha => by
    have h := h6 a ha
    have e : hps (hmR s0.toNat M) (hdg 3 (hnR M) s1.toNat) a 0 = 0 := rfl
    omega
  exact ⟨Eq.mpr hp_353 ⟨s0.toNat, s1.toNat, by omega, by omega, fun i hi => h5 i (Nat.zero_le i) hi, hco_eq (fun a ha => by rw [← h6 a ha]; exact r3 a (by omega)) (by
      rcases r4 with r4 | ⟨a, a1, a2⟩
      · refine ⟨0, by decide, ?_⟩
        have k1 := hps_d (t := hdg 3 (hnR M) s1.toNat) (a := 0) (g := 0) (K := 200000) (hmR_0 hG (f := s0.toNat) (by omega)) (hnR M)
        rw [Nat.zero_add] at k1
        have k2 := r3 0 (by omega)
        rw [h6 0 (by decide)] at k2
        have e : hps (hmR s0.toNat M) (hdg 3 (hnR M) s1.toNat) 0 0 = 0 := rfl
        omega
      · exact ⟨a, by omega, by rw [← h6 a (by omega)]; exact a2⟩)⟩, trivial⟩
theorem rul_983 : Rul r_983 := by
  refine ⟨fun _ ρ M hm hB hF hG => ?_, fun gi gv hg => (by cases hg)⟩
  have H := cr_983 M (ρ 0) (ρ 1) (ρ 2) (ρ 3) (ρ 4) (hB _ List.mem_cons_self) (hB _ (List.mem_cons_of_mem _ List.mem_cons_self)) (hB _ (List.mem_cons_of_mem _ (List.mem_cons_of_mem _ List.mem_cons_self))) (hB _ (List.mem_cons_of_mem _ (List.mem_cons_of_mem _ (List.mem_cons_of_mem _ List.mem_cons_self)))) (hB _ (List.mem_cons_of_mem _ (List.mem_cons_of_mem _ (List.mem_cons_of_mem _ (List.mem_cons_of_mem _ List.mem_cons_self))))) (cvp 347 (x' := ((ρ 0) + 1024 * (ρ 1))) (y' := ((ρ 2))) (by show 0 + (1 * ρ 0 + (1024 * ρ 1 + 0)) = _; omega) (by show 0 + (1 * ρ 2 + 0) = _; omega) (hm _ List.mem_cons_self)) (cvp 354 (x' := ((ρ 3))) (y' := ((ρ 4))) (by show 0 + (1 * ρ 3 + 0) = _; omega) (by show 0 + (1 * ρ 4 + 0) = _; omega) (hm _ (List.mem_cons_of_mem _ List.mem_cons_self))) (by have h := hF _ List.mem_cons_self; have h : 0 ≤ (-3) + (1 * ρ 3 + 0) := h; omega) hG
  obtain ⟨k0, -⟩ := H
  exact ⟨_, List.mem_cons_self, ρ, fun _ _ => rfl, (okM_c (pvp 353 (by show 0 + (1 * ρ 0 + (64 * ρ 1 + 0)) = _; omega) (by show 0 + (1 * ρ 4 + 0) = _; omega) k0) okM_n), okB_n, okF_n⟩
-- pw0_3
theorem cr_984 (M : pM)  (hG : gI M) : (HP 357 (0 : Int) (1 : Int) M ∧ True) := by
  exact ⟨Eq.mpr hp_357 ⟨0, by decide, by omega, rfl⟩, trivial⟩
theorem rul_984 : Rul r_984 := by
  refine ⟨fun _ ρ M hm hB hF hG => ?_, fun gi gv hg => (by cases hg)⟩
  have H := cr_984 M hG
  obtain ⟨k0, -⟩ := H
  exact ⟨_, List.mem_cons_self, ρ, fun _ _ => rfl, (okM_c (pvp 357 (by show 0 + 0 = _; omega) (by show 1 + 0 = _; omega) k0) okM_n), okB_n, okF_n⟩
-- pwn_3
theorem cr_985 (M : pM) (s0 s1 : Int) (b0 : 0 ≤ s0 ∧ s0 ≤ 8) (b1 : (-2147483648) ≤ s1 ∧ s1 ≤ 2147483647) (m0 : HP 357 (s0) (s1) M) (hG : gI M) : (HP 357 (s0 + 1) (3 * s1) M ∧ 0 ≤ (s1 - 1) ∧ 0 ≤ ((-1) * s1 + 6561) ∧ True) := by
  obtain ⟨k0, p1, p2, p3⟩ := Eq.mp hp_357 m0
  have ek : k0 = s0.toNat := by omega
  subst ek
  have q1 : 3 ^ 0 ≤ 3 ^ s0.toNat := Nat.pow_le_pow_right (by decide) (Nat.zero_le _)
  rw [Nat.pow_zero] at q1
  have q2 : 3 ^ s0.toNat ≤ 3 ^ 8 := Nat.pow_le_pow_right (by decide) (by omega)
  rw [show 3 ^ 8 = 6561 by decide] at q2
  exact ⟨Eq.mpr hp_357 ⟨s0.toNat + 1, by omega, by omega, by rw [Nat.pow_succ]; omega⟩, by omega, by omega, trivial⟩
theorem rul_985 : Rul r_985 := by
  refine ⟨fun _ ρ M hm hB hF hG => ?_, fun gi gv hg => (by cases hg)⟩
  have H := cr_985 M (ρ 0) (ρ 1) (hB _ List.mem_cons_self) (hB _ (List.mem_cons_of_mem _ List.mem_cons_self)) (cvp 357 (x' := ((ρ 0))) (y' := ((ρ 1))) (by show 0 + (1 * ρ 0 + 0) = _; omega) (by show 0 + (1 * ρ 1 + 0) = _; omega) (hm _ List.mem_cons_self)) hG
  obtain ⟨k0, f0, f1, -⟩ := H
  exact ⟨_, List.mem_cons_self, ρ, fun _ _ => rfl, (okM_c (pvp 357 (by show 1 + (1 * ρ 0 + 0) = _; omega) (by show 0 + (3 * ρ 1 + 0) = _; omega) k0) okM_n), okB_n, (okF_c (by show 0 ≤ (-1) + (1 * ρ 1 + 0); omega) (okF_c (by show 0 ≤ 6561 + ((-1) * ρ 1 + 0); omega) okF_n))⟩
-- pwb_3
theorem cr_986 (M : pM) (s0 s1 : Int) (b0 : 0 ≤ s0 ∧ s0 ≤ 9) (b1 : (-2147483648) ≤ s1 ∧ s1 ≤ 2147483647) (m0 : HP 357 (s0) (s1) M) (hG : gI M) : (0 ≤ (s1 - 1) ∧ 0 ≤ ((-1) * s1 + 19683) ∧ True) := by
  obtain ⟨k0, p1, p2, p3⟩ := Eq.mp hp_357 m0
  have ek : k0 = s0.toNat := by omega
  subst ek
  have q1 : 3 ^ 0 ≤ 3 ^ s0.toNat := Nat.pow_le_pow_right (by decide) (Nat.zero_le _)
  rw [Nat.pow_zero] at q1
  have q2 : 3 ^ s0.toNat ≤ 3 ^ 9 := Nat.pow_le_pow_right (by decide) (by omega)
  rw [show 3 ^ 9 = 19683 by decide] at q2
  exact ⟨by omega, by omega, trivial⟩
theorem rul_986 : Rul r_986 := by
  refine ⟨fun _ ρ M hm hB hF hG => ?_, fun gi gv hg => (by cases hg)⟩
  have H := cr_986 M (ρ 0) (ρ 1) (hB _ List.mem_cons_self) (hB _ (List.mem_cons_of_mem _ List.mem_cons_self)) (cvp 357 (x' := ((ρ 0))) (y' := ((ρ 1))) (by show 0 + (1 * ρ 0 + 0) = _; omega) (by show 0 + (1 * ρ 1 + 0) = _; omega) (hm _ List.mem_cons_self)) hG
  obtain ⟨f0, f1, -⟩ := H
  exact ⟨_, List.mem_cons_self, ρ, fun _ _ => rfl, okM_n, okB_n, (okF_c (by show 0 ≤ (-1) + (1 * ρ 1 + 0); omega) (okF_c (by show 0 ≤ 19683 + ((-1) * ρ 1 + 0); omega) okF_n))⟩
-- pwx_3
theorem cr_987 (M : pM) (s0 s1 s2 : Int) (b0 : 0 ≤ s0 ∧ s0 ≤ 9) (b1 : (-2147483648) ≤ s1 ∧ s1 ≤ 2147483647) (b2 : 0 ≤ s2 ∧ s2 ≤ 9) (m0 : HP 357 (s0) (s1) M) (m1 : (0 ≤ (99 : Int) ∧ M 61 (99 : Int).toNat = (s2))) (f0 : 0 ≤ (s0 + (-1) * s2)) (f1 : 0 ≤ ((-1) * s0 + s2)) (hG : gI M) : (HP 357 (s2) (s1) M ∧ True) := by
  obtain ⟨k0, p1, p2, p3⟩ := Eq.mp hp_357 m0
  exact ⟨Eq.mpr hp_357 ⟨k0, p1, by omega, p3⟩, trivial⟩
theorem rul_987 : Rul r_987 := by
  refine ⟨fun _ ρ M hm hB hF hG => ?_, fun gi gv hg => (by cases hg)⟩
  have H := cr_987 M (ρ 0) (ρ 1) (ρ 2) (hB _ List.mem_cons_self) (hB _ (List.mem_cons_of_mem _ List.mem_cons_self)) (hB _ (List.mem_cons_of_mem _ (List.mem_cons_of_mem _ List.mem_cons_self))) (cvp 357 (x' := ((ρ 0))) (y' := ((ρ 1))) (by show 0 + (1 * ρ 0 + 0) = _; omega) (by show 0 + (1 * ρ 1 + 0) = _; omega) (hm _ List.mem_cons_self)) (cvm (c := 61) (by decide) (x' := (99 : Int)) (y' := ((ρ 2))) (by show 99 + 0 = _; omega) (by show 0 + (1 * ρ 2 + 0) = _; omega) (hm _ (List.mem_cons_of_mem _ List.mem_cons_self))) (by have h := hF _ List.mem_cons_self; have h : 0 ≤ 0 + (1 * ρ 0 + ((-1) * ρ 2 + 0)) := h; omega) (by have h := hF _ (List.mem_cons_of_mem _ List.mem_cons_self); have h : 0 ≤ 0 + ((-1) * ρ 0 + (1 * ρ 2 + 0)) := h; omega) hG
  obtain ⟨k0, -⟩ := H
  exact ⟨_, List.mem_cons_self, ρ, fun _ _ => rfl, (okM_c (pvp 357 (by show 0 + (1 * ρ 2 + 0) = _; omega) (by show 0 + (1 * ρ 1 + 0) = _; omega) k0) okM_n), okB_n, okF_n⟩
-- sw0_3
theorem cr_988 (M : pM) (s0 : Int) (b0 : 0 ≤ s0 ∧ s0 ≤ 63) (hG : gI M) : (HP 361 (s0) (100000 : Int) M ∧ True) := by
  exact ⟨Eq.mpr hp_361 ⟨s0.toNat, 0, by omega, by omega, fun t _ hs => absurd hs (Nat.not_lt_zero _), Or.inl rfl⟩, trivial⟩
theorem rul_988 : Rul r_988 := by
  refine ⟨fun _ ρ M hm hB hF hG => ?_, fun gi gv hg => (by cases hg)⟩
  have H := cr_988 M (ρ 0) (hB _ List.mem_cons_self) hG
  obtain ⟨k0, -⟩ := H
  exact ⟨_, List.mem_cons_self, ρ, fun _ _ => rfl, (okM_c (pvp 361 (by show 0 + (1 * ρ 0 + 0) = _; omega) (by show 100000 + 0 = _; omega) k0) okM_n), okB_n, okF_n⟩
-- swk_3
theorem cr_989 (M : pM) (s0 s1 s2 s3 : Int) (b0 : 0 ≤ s0 ∧ s0 ≤ 63) (b1 : 0 ≤ s1 ∧ s1 ≤ 19683) (b2 : 0 ≤ s2 ∧ s2 ≤ 100000) (b3 : 0 ≤ s3 ∧ s3 ≤ 1800000) (m0 : HP 361 (s0 + 64 * s1) (s2) M) (m1 : HP 353 (s0 + 64 * s1) (s3) M) (f0 : 0 ≤ ((-1) * s2 + s3)) (hG : gI M) : (HP 361 (s0 + 64 * s1 + 64) (s2) M ∧ True) := by
  obtain ⟨f0, w0, h1, h2, h3⟩ := Eq.mp hp_361 m0
  have ef : f0 = s0.toNat := by omega
  have ew : w0 = s1.toNat := by omega
  subst ef; subst ew
  obtain ⟨f9, w9, l1, l2, l3, l4⟩ := Eq.mp hp_353 m1
  have ef9 : f9 = s0.toNat := by omega
  have ew9 : w9 = s1.toNat := by omega
  subst ef9; subst ew9
  exact ⟨Eq.mpr hp_361 ⟨s0.toNat, s1.toNat + 1, by omega, by omega, by
      by_cases hw : s1.toNat < 3 ^ hnR M
      · exact sw_k (by decide) hw h3 l4 (by omega)
      · exact hbs_s h3 (fun t ht hs hn => by
          have := hnu_lt _ ht
          have hn : ¬ hnu 3 t (hnR M) < s1.toNat := hn
          omega) (fun hs => by
          have hs : hnu 3 _ (hnR M) < s1.toNat := hs
          show hnu 3 _ (hnR M) < s1.toNat + 1
          omega)⟩, trivial⟩
theorem rul_989 : Rul r_989 := by
  refine ⟨fun _ ρ M hm hB hF hG => ?_, fun gi gv hg => (by cases hg)⟩
  have H := cr_989 M (ρ 0) (ρ 1) (ρ 2) (ρ 3) (hB _ List.mem_cons_self) (hB _ (List.mem_cons_of_mem _ List.mem_cons_self)) (hB _ (List.mem_cons_of_mem _ (List.mem_cons_of_mem _ List.mem_cons_self))) (hB _ (List.mem_cons_of_mem _ (List.mem_cons_of_mem _ (List.mem_cons_of_mem _ List.mem_cons_self)))) (cvp 361 (x' := ((ρ 0) + 64 * (ρ 1))) (y' := ((ρ 2))) (by show 0 + (1 * ρ 0 + (64 * ρ 1 + 0)) = _; omega) (by show 0 + (1 * ρ 2 + 0) = _; omega) (hm _ List.mem_cons_self)) (cvp 353 (x' := ((ρ 0) + 64 * (ρ 1))) (y' := ((ρ 3))) (by show 0 + (1 * ρ 0 + (64 * ρ 1 + 0)) = _; omega) (by show 0 + (1 * ρ 3 + 0) = _; omega) (hm _ (List.mem_cons_of_mem _ List.mem_cons_self))) (by have h := hF _ List.mem_cons_self; have h : 0 ≤ 0 + ((-1) * ρ 2 + (1 * ρ 3 + 0)) := h; omega) hG
  obtain ⟨k0, -⟩ := H
  exact ⟨_, List.mem_cons_self, ρ, fun _ _ => rfl, (okM_c (pvp 361 (by show 64 + (1 * ρ 0 + (64 * ρ 1 + 0)) = _; omega) (by show 0 + (1 * ρ 2 + 0) = _; omega) k0) okM_n), okB_n, okF_n⟩
-- swc_3
theorem cr_990 (M : pM) (s0 s1 s2 s3 s4 s5 s6 : Int) (b0 : 0 ≤ s0 ∧ s0 ≤ 63) (b1 : 0 ≤ s1 ∧ s1 ≤ 19683) (b2 : 0 ≤ s2 ∧ s2 ≤ 100000) (b3 : 0 ≤ s3 ∧ s3 ≤ 1800000) (b4 : (-2147483648) ≤ s4 ∧ s4 ≤ 2147483647) (b5 : 0 ≤ s5 ∧ s5 ≤ 9) (b6 : 0 ≤ s6 ∧ s6 ≤ 9) (m0 : HP 361 (s0 + 64 * s1) (s2) M) (m1 : HP 353 (s0 + 64 * s1) (s3) M) (m2 : HP 357 (s5) (s4) M) (m3 : (0 ≤ (99 : Int) ∧ M 61 (99 : Int).toNat = (s6))) (f0 : 0 ≤ (s2 + (-1) * s3 - 1)) (f1 : 0 ≤ ((-1) * s1 + s4 - 1)) (f2 : 0 ≤ (s5 + (-1) * s6)) (f3 : 0 ≤ ((-1) * s5 + s6)) (hG : gI M) : (HP 370 (s0 + 64 * s1) (s3) M ∧ True) := by
  obtain ⟨f0, w0, h1, h2, h3⟩ := Eq.mp hp_361 m0
  have ef : f0 = s0.toNat := by omega
  have ew : w0 = s1.toNat := by omega
  subst ef; subst ew
  obtain ⟨f9, w9, l1, l2, l3, l4⟩ := Eq.mp hp_353 m1
  have ef9 : f9 = s0.toNat := by omega
  have ew9 : w9 = s1.toNat := by omega
  subst ef9; subst ew9
  have en : hnR M = s6.toNat := hnR_v (by omega) (by have h : M 61 99 = s6 := m3.2; rw [h]; omega)
  obtain ⟨k0, p1, p2, p3⟩ := Eq.mp hp_357 m2
  have ek : k0 = s5.toNat := by omega
  subst ek
  have q1 : 3 ^ 0 ≤ 3 ^ s5.toNat := Nat.pow_le_pow_right (by decide) (Nat.zero_le _)
  rw [Nat.pow_zero] at q1
  exact ⟨Eq.mpr hp_370 ⟨s0.toNat, s1.toNat, by omega, by omega, by rw [en, show s6.toNat = s5.toNat by omega]; omega, l3, l4, sw_x h3 (by omega)⟩, trivial⟩
theorem rul_990 : Rul r_990 := by
  refine ⟨fun _ ρ M hm hB hF hG => ?_, fun gi gv hg => (by cases hg)⟩
  have H := cr_990 M (ρ 0) (ρ 1) (ρ 2) (ρ 3) (ρ 4) (ρ 5) (ρ 6) (hB _ List.mem_cons_self) (hB _ (List.mem_cons_of_mem _ List.mem_cons_self)) (hB _ (List.mem_cons_of_mem _ (List.mem_cons_of_mem _ List.mem_cons_self))) (hB _ (List.mem_cons_of_mem _ (List.mem_cons_of_mem _ (List.mem_cons_of_mem _ List.mem_cons_self)))) (hB _ (List.mem_cons_of_mem _ (List.mem_cons_of_mem _ (List.mem_cons_of_mem _ (List.mem_cons_of_mem _ List.mem_cons_self))))) (hB _ (List.mem_cons_of_mem _ (List.mem_cons_of_mem _ (List.mem_cons_of_mem _ (List.mem_cons_of_mem _ (List.mem_cons_of_mem _ List.mem_cons_self)))))) (hB _ (List.mem_cons_of_mem _ (List.mem_cons_of_mem _ (List.mem_cons_of_mem _ (List.mem_cons_of_mem _ (List.mem_cons_of_mem _ (List.mem_cons_of_mem _ List.mem_cons_self))))))) (cvp 361 (x' := ((ρ 0) + 64 * (ρ 1))) (y' := ((ρ 2))) (by show 0 + (1 * ρ 0 + (64 * ρ 1 + 0)) = _; omega) (by show 0 + (1 * ρ 2 + 0) = _; omega) (hm _ List.mem_cons_self)) (cvp 353 (x' := ((ρ 0) + 64 * (ρ 1))) (y' := ((ρ 3))) (by show 0 + (1 * ρ 0 + (64 * ρ 1 + 0)) = _; omega) (by show 0 + (1 * ρ 3 + 0) = _; omega) (hm _ (List.mem_cons_of_mem _ List.mem_cons_self))) (cvp 357 (x' := ((ρ 5))) (y' := ((ρ 4))) (by show 0 + (1 * ρ 5 + 0) = _; omega) (by show 0 + (1 * ρ 4 + 0) = _; omega) (hm _ (List.mem_cons_of_mem _ (List.mem_cons_of_mem _ List.mem_cons_self)))) (cvm (c := 61) (by decide) (x' := (99 : Int)) (y' := ((ρ 6))) (by show 99 + 0 = _; omega) (by show 0 + (1 * ρ 6 + 0) = _; omega) (hm _ (List.mem_cons_of_mem _ (List.mem_cons_of_mem _ (List.mem_cons_of_mem _ List.mem_cons_self))))) (by have h := hF _ List.mem_cons_self; have h : 0 ≤ (-1) + (1 * ρ 2 + ((-1) * ρ 3 + 0)) := h; omega) (by have h := hF _ (List.mem_cons_of_mem _ List.mem_cons_self); have h : 0 ≤ (-1) + ((-1) * ρ 1 + (1 * ρ 4 + 0)) := h; omega) (by have h := hF _ (List.mem_cons_of_mem _ (List.mem_cons_of_mem _ List.mem_cons_self)); have h : 0 ≤ 0 + (1 * ρ 5 + ((-1) * ρ 6 + 0)) := h; omega) (by have h := hF _ (List.mem_cons_of_mem _ (List.mem_cons_of_mem _ (List.mem_cons_of_mem _ List.mem_cons_self))); have h : 0 ≤ 0 + ((-1) * ρ 5 + (1 * ρ 6 + 0)) := h; omega) hG
  obtain ⟨k0, -⟩ := H
  exact ⟨_, List.mem_cons_self, ρ, fun _ _ => rfl, (okM_c (pvp 370 (by show 0 + (1 * ρ 0 + (64 * ρ 1 + 0)) = _; omega) (by show 0 + (1 * ρ 3 + 0) = _; omega) k0) okM_n), okB_n, okF_n⟩
-- swe_3
theorem cr_991 (M : pM) (s0 s1 s2 s3 s4 : Int) (b0 : 0 ≤ s0 ∧ s0 ≤ 63) (b1 : 0 ≤ s1 ∧ s1 ≤ 19683) (b2 : 0 ≤ s2 ∧ s2 ≤ 100000) (b3 : 0 ≤ s3 ∧ s3 ≤ 9) (b4 : 0 ≤ s4 ∧ s4 ≤ 9) (m0 : HP 370 (s0 + 64 * s1) (s2) M) (m1 : HP 371 (s3) (0 : Int) M) (m2 : (0 ≤ (99 : Int) ∧ M 61 (99 : Int).toNat = (s4))) (f0 : 0 ≤ (s3 + (-1) * s4)) (hG : gI M) : (HP 361 (s0 + 64 * s1 + 64) (s2) M ∧ True) := by
  obtain ⟨f0, w0, h1, h2, h3, h4, h5, h6⟩ := Eq.mp hp_370 m0
  have ef : f0 = s0.toNat := by omega
  have ew : w0 = s1.toNat := by omega
  subst ef; subst ew
  obtain ⟨c1, c2⟩ := Eq.mp hp_371 m1
  have en : hnR M = s4.toNat := hnR_v (by omega) (by have h : M 61 99 = s4 := m2.2; rw [h]; omega)
  exact ⟨Eq.mpr hp_361 ⟨s0.toNat, s1.toNat + 1, by omega, by omega, sw_e (by decide) h3 h5 h6 (fun o ho => hrow_v (by have := hnR_le (M := M); omega) ((c2 o (by rw [en] at ho; omega)).trans (h4 o ho)))⟩, trivial⟩
theorem rul_991 : Rul r_991 := by
  refine ⟨fun _ ρ M hm hB hF hG => ?_, fun gi gv hg => (by cases hg)⟩
  have H := cr_991 M (ρ 0) (ρ 1) (ρ 2) (ρ 3) (ρ 4) (hB _ List.mem_cons_self) (hB _ (List.mem_cons_of_mem _ List.mem_cons_self)) (hB _ (List.mem_cons_of_mem _ (List.mem_cons_of_mem _ List.mem_cons_self))) (hB _ (List.mem_cons_of_mem _ (List.mem_cons_of_mem _ (List.mem_cons_of_mem _ List.mem_cons_self)))) (hB _ (List.mem_cons_of_mem _ (List.mem_cons_of_mem _ (List.mem_cons_of_mem _ (List.mem_cons_of_mem _ List.mem_cons_self))))) (cvp 370 (x' := ((ρ 0) + 64 * (ρ 1))) (y' := ((ρ 2))) (by show 0 + (1 * ρ 0 + (64 * ρ 1 + 0)) = _; omega) (by show 0 + (1 * ρ 2 + 0) = _; omega) (hm _ List.mem_cons_self)) (cvp 371 (x' := ((ρ 3))) (y' := (0 : Int)) (by show 0 + (1 * ρ 3 + 0) = _; omega) (by show 0 + 0 = _; omega) (hm _ (List.mem_cons_of_mem _ List.mem_cons_self))) (cvm (c := 61) (by decide) (x' := (99 : Int)) (y' := ((ρ 4))) (by show 99 + 0 = _; omega) (by show 0 + (1 * ρ 4 + 0) = _; omega) (hm _ (List.mem_cons_of_mem _ (List.mem_cons_of_mem _ List.mem_cons_self)))) (by have h := hF _ List.mem_cons_self; have h : 0 ≤ 0 + (1 * ρ 3 + ((-1) * ρ 4 + 0)) := h; omega) hG
  obtain ⟨k0, -⟩ := H
  exact ⟨_, List.mem_cons_self, ρ, fun _ _ => rfl, (okM_c (pvp 361 (by show 64 + (1 * ρ 0 + (64 * ρ 1 + 0)) = _; omega) (by show 0 + (1 * ρ 2 + 0) = _; omega) k0) okM_n), okB_n, okF_n⟩
-- swf_3
theorem cr_992 (M : pM) (s0 s1 s2 s3 s4 s5 s6 : Int) (b0 : 0 ≤ s0 ∧ s0 ≤ 63) (b1 : 0 ≤ s1 ∧ s1 ≤ 19683) (b2 : 0 ≤ s2 ∧ s2 ≤ 100000) (b3 : (-2147483648) ≤ s3 ∧ s3 ≤ 2147483647) (b4 : 1 ≤ s4 ∧ s4 ≤ 3) (b5 : 0 ≤ s5 ∧ s5 ≤ 9) (b6 : 0 ≤ s6 ∧ s6 ≤ 9) (m0 : HP 361 (s0 + 64 * s1) (s2) M) (m1 : HP 357 (s5) (s3) M) (m2 : HP 358 (s0 + 64 * s5) (0 : Int) M) (m3 : (0 ≤ (99 : Int) ∧ M 61 (99 : Int).toNat = (s6))) (f0 : 0 ≤ (s1 + (-1) * s3)) (f1 : 0 ≤ (s5 + (-1) * s6)) (f2 : 0 ≤ ((-1) * s5 + s6)) (f3 : 0 ≤ ((-1) * s4 + 3)) (f4 : 0 ≤ (s4 - 3)) (hG : gI M) : (HP 372 (s0 + 64 * s4) (s2) M ∧ HP 358 (s0 + 64 * s6) (0 : Int) M ∧ 0 ≤ ((-1) * s2 + 35640) ∧ True) := by
  obtain ⟨f0, w0, h1, h2, h3⟩ := Eq.mp hp_361 m0
  have ef : f0 = s0.toNat := by omega
  have ew : w0 = s1.toNat := by omega
  subst ef; subst ew
  have en : hnR M = s6.toNat := hnR_v (by omega) (by have h : M 61 99 = s6 := m3.2; rw [h]; omega)
  obtain ⟨k0, p1, p2, p3⟩ := Eq.mp hp_357 m1
  have ek : k0 = s5.toNat := by omega
  subst ek
  have q1 : 3 ^ 0 ≤ 3 ^ s5.toNat := Nat.pow_le_pow_right (by decide) (Nat.zero_le _)
  rw [Nat.pow_zero] at q1
  obtain ⟨f8, n8, g1, g2, g3, hr⟩ := Eq.mp hp_358 m2
  have ef8 : f8 = s0.toNat := by omega
  have en8 : n8 = s5.toNat := by omega
  subst ef8; subst en8
  have k := hj_fin (by decide) (by decide) (by rw [en]; omega) (fun o ho => hr o (by rw [en] at ho; omega)) (fun t ht => by
      have := hnu_lt _ ht
      show hnu 3 t (hnR M) < s1.toNat
      rw [en, show s6.toNat = s5.toNat by omega] at this
      rw [en, show s6.toNat = s5.toNat by omega]
      omega) h3
  exact ⟨Eq.mpr hp_372 ⟨s0.toNat, 3, by omega, by decide, by decide, by omega, k.2.1, k.2.2.1, k.2.2.2.1, k.2.2.2.2⟩, Eq.mpr hp_358 ⟨s0.toNat, s5.toNat, by omega, by omega, by omega, hr⟩, by omega, trivial⟩
theorem rul_992 : Rul r_992 := by
  refine ⟨fun _ ρ M hm hB hF hG => ?_, fun gi gv hg => (by cases hg)⟩
  have H := cr_992 M (ρ 0) (ρ 1) (ρ 2) (ρ 3) (ρ 4) (ρ 5) (ρ 6) (hB _ List.mem_cons_self) (hB _ (List.mem_cons_of_mem _ List.mem_cons_self)) (hB _ (List.mem_cons_of_mem _ (List.mem_cons_of_mem _ List.mem_cons_self))) (hB _ (List.mem_cons_of_mem _ (List.mem_cons_of_mem _ (List.mem_cons_of_mem _ List.mem_cons_self)))) (hB _ (List.mem_cons_of_mem _ (List.mem_cons_of_mem _ (List.mem_cons_of_mem _ (List.mem_cons_of_mem _ List.mem_cons_self))))) (hB _ (List.mem_cons_of_mem _ (List.mem_cons_of_mem _ (List.mem_cons_of_mem _ (List.mem_cons_of_mem _ (List.mem_cons_of_mem _ List.mem_cons_self)))))) (hB _ (List.mem_cons_of_mem _ (List.mem_cons_of_mem _ (List.mem_cons_of_mem _ (List.mem_cons_of_mem _ (List.mem_cons_of_mem _ (List.mem_cons_of_mem _ List.mem_cons_self))))))) (cvp 361 (x' := ((ρ 0) + 64 * (ρ 1))) (y' := ((ρ 2))) (by show 0 + (1 * ρ 0 + (64 * ρ 1 + 0)) = _; omega) (by show 0 + (1 * ρ 2 + 0) = _; omega) (hm _ List.mem_cons_self)) (cvp 357 (x' := ((ρ 5))) (y' := ((ρ 3))) (by show 0 + (1 * ρ 5 + 0) = _; omega) (by show 0 + (1 * ρ 3 + 0) = _; omega) (hm _ (List.mem_cons_of_mem _ List.mem_cons_self))) (cvp 358 (x' := ((ρ 0) + 64 * (ρ 5))) (y' := (0 : Int)) (by show 0 + (1 * ρ 0 + (64 * ρ 5 + 0)) = _; omega) (by show 0 + 0 = _; omega) (hm _ (List.mem_cons_of_mem _ (List.mem_cons_of_mem _ List.mem_cons_self)))) (cvm (c := 61) (by decide) (x' := (99 : Int)) (y' := ((ρ 6))) (by show 99 + 0 = _; omega) (by show 0 + (1 * ρ 6 + 0) = _; omega) (hm _ (List.mem_cons_of_mem _ (List.mem_cons_of_mem _ (List.mem_cons_of_mem _ List.mem_cons_self))))) (by have h := hF _ List.mem_cons_self; have h : 0 ≤ 0 + (1 * ρ 1 + ((-1) * ρ 3 + 0)) := h; omega) (by have h := hF _ (List.mem_cons_of_mem _ List.mem_cons_self); have h : 0 ≤ 0 + (1 * ρ 5 + ((-1) * ρ 6 + 0)) := h; omega) (by have h := hF _ (List.mem_cons_of_mem _ (List.mem_cons_of_mem _ List.mem_cons_self)); have h : 0 ≤ 0 + ((-1) * ρ 5 + (1 * ρ 6 + 0)) := h; omega) (by have h := hF _ (List.mem_cons_of_mem _ (List.mem_cons_of_mem _ (List.mem_cons_of_mem _ List.mem_cons_self))); have h : 0 ≤ 3 + ((-1) * ρ 4 + 0) := h; omega) (by have h := hF _ (List.mem_cons_of_mem _ (List.mem_cons_of_mem _ (List.mem_cons_of_mem _ (List.mem_cons_of_mem _ List.mem_cons_self)))); have h : 0 ≤ (-3) + (1 * ρ 4 + 0) := h; omega) hG
  obtain ⟨k0, k1, f0, -⟩ := H
  exact ⟨_, List.mem_cons_self, ρ, fun _ _ => rfl, (okM_c (pvp 372 (by show 0 + (1 * ρ 0 + (64 * ρ 4 + 0)) = _; omega) (by show 0 + (1 * ρ 2 + 0) = _; omega) k0) (okM_c (pvp 358 (by show 0 + (1 * ρ 0 + (64 * ρ 6 + 0)) = _; omega) (by show 0 + 0 = _; omega) k1) okM_n)), okB_n, (okF_c (by show 0 ≤ 35640 + ((-1) * ρ 2 + 0); omega) okF_n)⟩
-- hmq
theorem cr_993 (M : pM) (s0 s1 s2 s3 s4 s5 : Int) (b0 : 0 ≤ s0 ∧ s0 ≤ 63) (b1 : 1 ≤ s1 ∧ s1 ≤ 3) (b2 : 0 ≤ s2 ∧ s2 ≤ 9) (b3 : 0 ≤ s3 ∧ s3 ≤ 9) (b4 : 0 ≤ s4 ∧ s4 ≤ 1000000) (b5 : 0 ≤ s5 ∧ s5 ≤ 100000) (m0 : HP 302 (s0) (0 : Int) M) (m1 : (0 ≤ (1 : Int) ∧ M 55 (1 : Int).toNat = (s2))) (m2 : HP 343 (s2) (0 : Int) M) (m3 : (0 ≤ (99 : Int) ∧ M 61 (99 : Int).toNat = (s3))) (m4 : HP 310 (s1) (s1) M) (m5 : (0 ≤ (6 : Int) ∧ M 55 (6 : Int).toNat = (s4))) (m6 : HP 342 (s2) (0 : Int) M) (m7 : HP 372 (s0 + 64 * s1) (s5) M) (f0 : 0 ≤ (s2 + (-1) * s3)) (f1 : 0 ≤ ((-1) * s2 + s3)) (hG : gI M) : (0 ≤ ((-1) * s4 + s5) ∧ 0 ≤ (s4 + (-1) * s5) ∧ True) := by
  obtain ⟨f0, f1, f2, hB⟩ := Eq.mp hp_302 m0
  have ef : f0 = s0.toNat := by omega
  subst ef
  have en : hnC M = s2.toNat := hnC_v (by omega) (by have h : M 55 1 = s2 := m1.2; rw [h]; omega)
  have eo : hnR M = s3.toNat := hnR_v (by omega) (by have h : M 61 99 = s3 := m3.2; rw [h]; omega)
  obtain ⟨o1, o2, o3⟩ := Eq.mp hp_343 m2
  have hme : ∀ o, o < s2.toNat → (hmC M o = hmR s0.toNat M o ∧ hmC M o < 200000) ∨ (hmC M o = 2000000 ∧ hmR s0.toNat M o = 200000) := fun o ho => hm_eq hG (by omega) (by omega) hB (o3 o (by omega))
  obtain ⟨j0, T0, t1, t2, t3, t4, t5, t6, t7⟩ := Eq.mp hp_310 m4
  have eb : M 55 6 = s4 := m5.2
  obtain ⟨r1, r2, r3⟩ := Eq.mp hp_342 m6
  have ej : j0 = T0 := by omega
  subst ej
  obtain ⟨k1, k2, k3, k4, k5⟩ := hj_fin (by decide) t1 (by rw [en]; omega) (fun o ho => r3 o (by rw [en] at ho; omega)) (fun t _ => Or.inr ⟨fun o ho => absurd ho (Nat.not_lt_zero o), Or.inl rfl⟩) t7
  obtain ⟨f8, T8, g1, g2, g3, g4, g5, g6, g7, g8⟩ := Eq.mp hp_372 m7
  have ef8 : f8 = s0.toNat := by omega
  have eT8 : T8 = j0 := by omega
  subst ef8; subst eT8
  have em : ∀ o, o < hnC M → hmC M o = hmR s0.toNat M o := fun o ho => by
    rw [en] at ho
    have a1 := hme o ho
    have a2 := r3 o (by omega)
    omega
  have ee : hnR M = hnC M := by rw [en, eo]; omega
  rw [ee] at g5 g6 g7 g8
  have g6 : hco (hmC M) (hrow 116 9 M) (hnC M) = s5 := (hco_m em).trans g6
  have g7 : ∀ t, hva T8 (hnC M) t → s5 ≤ hco (hmC M) t (hnC M) := fun t ht => by rw [hco_m em]; exact g7 t ht
  have g8 : ∀ t, hva T8 (hnC M) t → hlx t (hrow 116 9 M) (hnC M) → s5 < hco (hmC M) t (hnC M) := fun t ht hl => by rw [hco_m em]; exact g8 t ht hl
  have k := hfin_b k2 k3 k4 g5 g6 g7
  rw [eb] at k
  exact ⟨by omega, by omega, trivial⟩
theorem rul_993 : Rul r_993 := by
  refine ⟨fun _ ρ M hm hB hF hG => ?_, fun gi gv hg => (by cases hg)⟩
  have H := cr_993 M (ρ 0) (ρ 1) (ρ 2) (ρ 3) (ρ 4) (ρ 5) (hB _ List.mem_cons_self) (hB _ (List.mem_cons_of_mem _ List.mem_cons_self)) (hB _ (List.mem_cons_of_mem _ (List.mem_cons_of_mem _ List.mem_cons_self))) (hB _ (List.mem_cons_of_mem _ (List.mem_cons_of_mem _ (List.mem_cons_of_mem _ List.mem_cons_self)))) (hB _ (List.mem_cons_of_mem _ (List.mem_cons_of_mem _ (List.mem_cons_of_mem _ (List.mem_cons_of_mem _ List.mem_cons_self))))) (hB _ (List.mem_cons_of_mem _ (List.mem_cons_of_mem _ (List.mem_cons_of_mem _ (List.mem_cons_of_mem _ (List.mem_cons_of_mem _ List.mem_cons_self)))))) (cvp 302 (x' := ((ρ 0))) (y' := (0 : Int)) (by show 0 + (1 * ρ 0 + 0) = _; omega) (by show 0 + 0 = _; omega) (hm _ List.mem_cons_self)) (cvm (c := 55) (by decide) (x' := (1 : Int)) (y' := ((ρ 2))) (by show 1 + 0 = _; omega) (by show 0 + (1 * ρ 2 + 0) = _; omega) (hm _ (List.mem_cons_of_mem _ List.mem_cons_self))) (cvp 343 (x' := ((ρ 2))) (y' := (0 : Int)) (by show 0 + (1 * ρ 2 + 0) = _; omega) (by show 0 + 0 = _; omega) (hm _ (List.mem_cons_of_mem _ (List.mem_cons_of_mem _ List.mem_cons_self)))) (cvm (c := 61) (by decide) (x' := (99 : Int)) (y' := ((ρ 3))) (by show 99 + 0 = _; omega) (by show 0 + (1 * ρ 3 + 0) = _; omega) (hm _ (List.mem_cons_of_mem _ (List.mem_cons_of_mem _ (List.mem_cons_of_mem _ List.mem_cons_self))))) (cvp 310 (x' := ((ρ 1))) (y' := ((ρ 1))) (by show 0 + (1 * ρ 1 + 0) = _; omega) (by show 0 + (1 * ρ 1 + 0) = _; omega) (hm _ (List.mem_cons_of_mem _ (List.mem_cons_of_mem _ (List.mem_cons_of_mem _ (List.mem_cons_of_mem _ List.mem_cons_self)))))) (cvm (c := 55) (by decide) (x' := (6 : Int)) (y' := ((ρ 4))) (by show 6 + 0 = _; omega) (by show 0 + (1 * ρ 4 + 0) = _; omega) (hm _ (List.mem_cons_of_mem _ (List.mem_cons_of_mem _ (List.mem_cons_of_mem _ (List.mem_cons_of_mem _ (List.mem_cons_of_mem _ List.mem_cons_self))))))) (cvp 342 (x' := ((ρ 2))) (y' := (0 : Int)) (by show 0 + (1 * ρ 2 + 0) = _; omega) (by show 0 + 0 = _; omega) (hm _ (List.mem_cons_of_mem _ (List.mem_cons_of_mem _ (List.mem_cons_of_mem _ (List.mem_cons_of_mem _ (List.mem_cons_of_mem _ (List.mem_cons_of_mem _ List.mem_cons_self)))))))) (cvp 372 (x' := ((ρ 0) + 64 * (ρ 1))) (y' := ((ρ 5))) (by show 0 + (1 * ρ 0 + (64 * ρ 1 + 0)) = _; omega) (by show 0 + (1 * ρ 5 + 0) = _; omega) (hm _ (List.mem_cons_of_mem _ (List.mem_cons_of_mem _ (List.mem_cons_of_mem _ (List.mem_cons_of_mem _ (List.mem_cons_of_mem _ (List.mem_cons_of_mem _ (List.mem_cons_of_mem _ List.mem_cons_self))))))))) (by have h := hF _ List.mem_cons_self; have h : 0 ≤ 0 + (1 * ρ 2 + ((-1) * ρ 3 + 0)) := h; omega) (by have h := hF _ (List.mem_cons_of_mem _ List.mem_cons_self); have h : 0 ≤ 0 + ((-1) * ρ 2 + (1 * ρ 3 + 0)) := h; omega) hG
  obtain ⟨f0, f1, -⟩ := H
  exact ⟨_, List.mem_cons_self, ρ, fun _ _ => rfl, okM_n, okB_n, (okF_c (by show 0 ≤ 0 + ((-1) * ρ 4 + (1 * ρ 5 + 0)); omega) (okF_c (by show 0 ≤ 0 + (1 * ρ 4 + ((-1) * ρ 5 + 0)); omega) okF_n))⟩
-- nrx1
theorem cr_994 (M : pM) (s0 s1 s2 : Int) (b0 : 0 ≤ s0 ∧ s0 ≤ 63) (b1 : 0 ≤ s1 ∧ s1 ≤ 9) (b2 : 0 ≤ s2 ∧ s2 ≤ 9) (m0 : HP 302 (s0) (0 : Int) M) (m1 : (0 ≤ (1 : Int) ∧ M 55 (1 : Int).toNat = (s1))) (m2 : HP 343 (s1) (0 : Int) M) (m3 : (0 ≤ (99 : Int) ∧ M 61 (99 : Int).toNat = (s2))) (m4 : HP 342 (s1) (0 : Int) M) (m5 : HP 366 (s0 + 64 * s2) (0 : Int) M) (f0 : 0 ≤ (s1 + (-1) * s2)) (f1 : 0 ≤ ((-1) * s1 + s2)) (hG : gI M) : (0 ≤ (s1 - 10) ∧ True) := by
  obtain ⟨f0, f1, f2, hB⟩ := Eq.mp hp_302 m0
  have ef : f0 = s0.toNat := by omega
  subst ef
  have en : hnC M = s1.toNat := hnC_v (by omega) (by have h : M 55 1 = s1 := m1.2; rw [h]; omega)
  have eo : hnR M = s2.toNat := hnR_v (by omega) (by have h : M 61 99 = s2 := m3.2; rw [h]; omega)
  obtain ⟨o1, o2, o3⟩ := Eq.mp hp_343 m2
  have hme : ∀ o, o < s1.toNat → (hmC M o = hmR s0.toNat M o ∧ hmC M o < 200000) ∨ (hmC M o = 2000000 ∧ hmR s0.toNat M o = 200000) := fun o ho => hm_eq hG (by omega) (by omega) hB (o3 o (by omega))
  exfalso
  obtain ⟨r1, r2, r3⟩ := Eq.mp hp_342 m4
  obtain ⟨f8, n8, g1, g2, g3, o, g4, g5⟩ := Eq.mp hp_366 m5
  have ef8 : f8 = s0.toNat := by omega
  subst ef8
  have a1 := hme o (by omega)
  have a2 := r3 o (by omega)
  omega
theorem rul_994 : Rul r_994 := by
  refine ⟨fun _ ρ M hm hB hF hG => ?_, fun gi gv hg => (by cases hg)⟩
  have H := cr_994 M (ρ 0) (ρ 1) (ρ 2) (hB _ List.mem_cons_self) (hB _ (List.mem_cons_of_mem _ List.mem_cons_self)) (hB _ (List.mem_cons_of_mem _ (List.mem_cons_of_mem _ List.mem_cons_self))) (cvp 302 (x' := ((ρ 0))) (y' := (0 : Int)) (by show 0 + (1 * ρ 0 + 0) = _; omega) (by show 0 + 0 = _; omega) (hm _ List.mem_cons_self)) (cvm (c := 55) (by decide) (x' := (1 : Int)) (y' := ((ρ 1))) (by show 1 + 0 = _; omega) (by show 0 + (1 * ρ 1 + 0) = _; omega) (hm _ (List.mem_cons_of_mem _ List.mem_cons_self))) (cvp 343 (x' := ((ρ 1))) (y' := (0 : Int)) (by show 0 + (1 * ρ 1 + 0) = _; omega) (by show 0 + 0 = _; omega) (hm _ (List.mem_cons_of_mem _ (List.mem_cons_of_mem _ List.mem_cons_self)))) (cvm (c := 61) (by decide) (x' := (99 : Int)) (y' := ((ρ 2))) (by show 99 + 0 = _; omega) (by show 0 + (1 * ρ 2 + 0) = _; omega) (hm _ (List.mem_cons_of_mem _ (List.mem_cons_of_mem _ (List.mem_cons_of_mem _ List.mem_cons_self))))) (cvp 342 (x' := ((ρ 1))) (y' := (0 : Int)) (by show 0 + (1 * ρ 1 + 0) = _; omega) (by show 0 + 0 = _; omega) (hm _ (List.mem_cons_of_mem _ (List.mem_cons_of_mem _ (List.mem_cons_of_mem _ (List.mem_cons_of_mem _ List.mem_cons_self)))))) (cvp 366 (x' := ((ρ 0) + 64 * (ρ 2))) (y' := (0 : Int)) (by show 0 + (1 * ρ 0 + (64 * ρ 2 + 0)) = _; omega) (by show 0 + 0 = _; omega) (hm _ (List.mem_cons_of_mem _ (List.mem_cons_of_mem _ (List.mem_cons_of_mem _ (List.mem_cons_of_mem _ (List.mem_cons_of_mem _ List.mem_cons_self))))))) (by have h := hF _ List.mem_cons_self; have h : 0 ≤ 0 + (1 * ρ 1 + ((-1) * ρ 2 + 0)) := h; omega) (by have h := hF _ (List.mem_cons_of_mem _ List.mem_cons_self); have h : 0 ≤ 0 + ((-1) * ρ 1 + (1 * ρ 2 + 0)) := h; omega) hG
  obtain ⟨f0, -⟩ := H
  exact ⟨_, List.mem_cons_self, ρ, fun _ _ => rfl, okM_n, okB_n, (okF_c (by show 0 ≤ (-10) + (1 * ρ 1 + 0); omega) okF_n)⟩
-- nrx2
theorem cr_995 (M : pM) (s0 s1 s2 : Int) (b0 : 0 ≤ s0 ∧ s0 ≤ 63) (b1 : 0 ≤ s1 ∧ s1 ≤ 9) (b2 : 0 ≤ s2 ∧ s2 ≤ 9) (m0 : HP 302 (s0) (0 : Int) M) (m1 : (0 ≤ (1 : Int) ∧ M 55 (1 : Int).toNat = (s1))) (m2 : HP 343 (s1) (0 : Int) M) (m3 : (0 ≤ (99 : Int) ∧ M 61 (99 : Int).toNat = (s2))) (m4 : HP 365 (s1) (0 : Int) M) (m5 : HP 358 (s0 + 64 * s2) (0 : Int) M) (f0 : 0 ≤ (s1 + (-1) * s2)) (f1 : 0 ≤ ((-1) * s1 + s2)) (hG : gI M) : (0 ≤ (s1 - 10) ∧ True) := by
  obtain ⟨f0, f1, f2, hB⟩ := Eq.mp hp_302 m0
  have ef : f0 = s0.toNat := by omega
  subst ef
  have en : hnC M = s1.toNat := hnC_v (by omega) (by have h : M 55 1 = s1 := m1.2; rw [h]; omega)
  have eo : hnR M = s2.toNat := hnR_v (by omega) (by have h : M 61 99 = s2 := m3.2; rw [h]; omega)
  obtain ⟨o1, o2, o3⟩ := Eq.mp hp_343 m2
  have hme : ∀ o, o < s1.toNat → (hmC M o = hmR s0.toNat M o ∧ hmC M o < 200000) ∨ (hmC M o = 2000000 ∧ hmR s0.toNat M o = 200000) := fun o ho => hm_eq hG (by omega) (by omega) hB (o3 o (by omega))
  exfalso
  obtain ⟨r1, o, r2, r3⟩ := Eq.mp hp_365 m4
  obtain ⟨f8, n8, g1, g2, g3, hr⟩ := Eq.mp hp_358 m5
  have ef8 : f8 = s0.toNat := by omega
  subst ef8
  have a1 := hme o (by omega)
  have a2 := hr o (by omega)
  omega
theorem rul_995 : Rul r_995 := by
  refine ⟨fun _ ρ M hm hB hF hG => ?_, fun gi gv hg => (by cases hg)⟩
  have H := cr_995 M (ρ 0) (ρ 1) (ρ 2) (hB _ List.mem_cons_self) (hB _ (List.mem_cons_of_mem _ List.mem_cons_self)) (hB _ (List.mem_cons_of_mem _ (List.mem_cons_of_mem _ List.mem_cons_self))) (cvp 302 (x' := ((ρ 0))) (y' := (0 : Int)) (by show 0 + (1 * ρ 0 + 0) = _; omega) (by show 0 + 0 = _; omega) (hm _ List.mem_cons_self)) (cvm (c := 55) (by decide) (x' := (1 : Int)) (y' := ((ρ 1))) (by show 1 + 0 = _; omega) (by show 0 + (1 * ρ 1 + 0) = _; omega) (hm _ (List.mem_cons_of_mem _ List.mem_cons_self))) (cvp 343 (x' := ((ρ 1))) (y' := (0 : Int)) (by show 0 + (1 * ρ 1 + 0) = _; omega) (by show 0 + 0 = _; omega) (hm _ (List.mem_cons_of_mem _ (List.mem_cons_of_mem _ List.mem_cons_self)))) (cvm (c := 61) (by decide) (x' := (99 : Int)) (y' := ((ρ 2))) (by show 99 + 0 = _; omega) (by show 0 + (1 * ρ 2 + 0) = _; omega) (hm _ (List.mem_cons_of_mem _ (List.mem_cons_of_mem _ (List.mem_cons_of_mem _ List.mem_cons_self))))) (cvp 365 (x' := ((ρ 1))) (y' := (0 : Int)) (by show 0 + (1 * ρ 1 + 0) = _; omega) (by show 0 + 0 = _; omega) (hm _ (List.mem_cons_of_mem _ (List.mem_cons_of_mem _ (List.mem_cons_of_mem _ (List.mem_cons_of_mem _ List.mem_cons_self)))))) (cvp 358 (x' := ((ρ 0) + 64 * (ρ 2))) (y' := (0 : Int)) (by show 0 + (1 * ρ 0 + (64 * ρ 2 + 0)) = _; omega) (by show 0 + 0 = _; omega) (hm _ (List.mem_cons_of_mem _ (List.mem_cons_of_mem _ (List.mem_cons_of_mem _ (List.mem_cons_of_mem _ (List.mem_cons_of_mem _ List.mem_cons_self))))))) (by have h := hF _ List.mem_cons_self; have h : 0 ≤ 0 + (1 * ρ 1 + ((-1) * ρ 2 + 0)) := h; omega) (by have h := hF _ (List.mem_cons_of_mem _ List.mem_cons_self); have h : 0 ≤ 0 + ((-1) * ρ 1 + (1 * ρ 2 + 0)) := h; omega) hG
  obtain ⟨f0, -⟩ := H
  exact ⟨_, List.mem_cons_self, ρ, fun _ _ => rfl, okM_n, okB_n, (okF_c (by show 0 ≤ (-10) + (1 * ρ 1 + 0); omega) okF_n)⟩
-- trq
theorem cr_996 (M : pM) (s0 s1 s2 s3 s4 s5 s6 s7 s8 : Int) (b0 : 0 ≤ s0 ∧ s0 ≤ 63) (b1 : 1 ≤ s1 ∧ s1 ≤ 3) (b2 : 0 ≤ s2 ∧ s2 ≤ 9) (b3 : 0 ≤ s3 ∧ s3 ≤ 9) (b4 : 0 ≤ s4 ∧ s4 ≤ 1000000) (b5 : 0 ≤ s5 ∧ s5 ≤ 100000) (b6 : 0 ≤ s6 ∧ s6 ≤ 8) (b7 : (-2147483648) ≤ s7 ∧ s7 ≤ 2147483647) (b8 : (-2147483648) ≤ s8 ∧ s8 ≤ 2147483647) (m0 : HP 302 (s0) (0 : Int) M) (m1 : (0 ≤ (1 : Int) ∧ M 55 (1 : Int).toNat = (s2))) (m2 : HP 343 (s2) (0 : Int) M) (m3 : (0 ≤ (99 : Int) ∧ M 61 (99 : Int).toNat = (s3))) (m4 : HP 310 (s1) (s1) M) (m5 : (0 ≤ (6 : Int) ∧ M 55 (6 : Int).toNat = (s4))) (m6 : HP 342 (s2) (0 : Int) M) (m7 : HP 372 (s0 + 64 * s1) (s5) M) (m8 : (0 ≤ (s6) ∧ M 60 (s6).toNat = (s7))) (m9 : (0 ≤ (s6) ∧ M 116 (s6).toNat = (s8))) (f0 : 0 ≤ (s2 + (-1) * s3)) (f1 : 0 ≤ ((-1) * s2 + s3)) (f2 : 0 ≤ (s2 + (-1) * s6 - 1)) (hG : gI M) : (0 ≤ ((-1) * s7 + s8) ∧ 0 ≤ (s7 + (-1) * s8) ∧ True) := by
  obtain ⟨f0, f1, f2, hB⟩ := Eq.mp hp_302 m0
  have ef : f0 = s0.toNat := by omega
  subst ef
  have en : hnC M = s2.toNat := hnC_v (by omega) (by have h : M 55 1 = s2 := m1.2; rw [h]; omega)
  have eo : hnR M = s3.toNat := hnR_v (by omega) (by have h : M 61 99 = s3 := m3.2; rw [h]; omega)
  obtain ⟨o1, o2, o3⟩ := Eq.mp hp_343 m2
  have hme : ∀ o, o < s2.toNat → (hmC M o = hmR s0.toNat M o ∧ hmC M o < 200000) ∨ (hmC M o = 2000000 ∧ hmR s0.toNat M o = 200000) := fun o ho => hm_eq hG (by omega) (by omega) hB (o3 o (by omega))
  obtain ⟨j0, T0, t1, t2, t3, t4, t5, t6, t7⟩ := Eq.mp hp_310 m4
  have eb : M 55 6 = s4 := m5.2
  obtain ⟨r1, r2, r3⟩ := Eq.mp hp_342 m6
  have ej : j0 = T0 := by omega
  subst ej
  obtain ⟨k1, k2, k3, k4, k5⟩ := hj_fin (by decide) t1 (by rw [en]; omega) (fun o ho => r3 o (by rw [en] at ho; omega)) (fun t _ => Or.inr ⟨fun o ho => absurd ho (Nat.not_lt_zero o), Or.inl rfl⟩) t7
  obtain ⟨f8, T8, g1, g2, g3, g4, g5, g6, g7, g8⟩ := Eq.mp hp_372 m7
  have ef8 : f8 = s0.toNat := by omega
  have eT8 : T8 = j0 := by omega
  subst ef8; subst eT8
  have em : ∀ o, o < hnC M → hmC M o = hmR s0.toNat M o := fun o ho => by
    rw [en] at ho
    have a1 := hme o ho
    have a2 := r3 o (by omega)
    omega
  have ee : hnR M = hnC M := by rw [en, eo]; omega
  rw [ee] at g5 g6 g7 g8
  have g6 : hco (hmC M) (hrow 116 9 M) (hnC M) = s5 := (hco_m em).trans g6
  have g7 : ∀ t, hva T8 (hnC M) t → s5 ≤ hco (hmC M) t (hnC M) := fun t ht => by rw [hco_m em]; exact g7 t ht
  have g8 : ∀ t, hva T8 (hnC M) t → hlx t (hrow 116 9 M) (hnC M) → s5 < hco (hmC M) t (hnC M) := fun t ht hl => by rw [hco_m em]; exact g8 t ht hl
  have k := hfin_c k2 k3 k4 k5 g5 g6 g7 g8 s6.toNat (by rw [en]; omega)
  unfold hrow at k
  rw [if_pos (by omega), if_pos (by omega)] at k
  have b1 := gI_60 hG (i := s6.toNat) (by omega)
  have b2 := gI_116 hG (i := s6.toNat) (by omega)
  have c1 : M 60 s6.toNat = s7 := m8.2
  have c2 : M 116 s6.toNat = s8 := m9.2
  exact ⟨by omega, by omega, trivial⟩
theorem rul_996 : Rul r_996 := by
  refine ⟨fun _ ρ M hm hB hF hG => ?_, fun gi gv hg => (by cases hg)⟩
  have H := cr_996 M (ρ 0) (ρ 1) (ρ 2) (ρ 3) (ρ 4) (ρ 5) (ρ 6) (ρ 7) (ρ 8) (hB _ List.mem_cons_self) (hB _ (List.mem_cons_of_mem _ List.mem_cons_self)) (hB _ (List.mem_cons_of_mem _ (List.mem_cons_of_mem _ List.mem_cons_self))) (hB _ (List.mem_cons_of_mem _ (List.mem_cons_of_mem _ (List.mem_cons_of_mem _ List.mem_cons_self)))) (hB _ (List.mem_cons_of_mem _ (List.mem_cons_of_mem _ (List.mem_cons_of_mem _ (List.mem_cons_of_mem _ List.mem_cons_self))))) (hB _ (List.mem_cons_of_mem _ (List.mem_cons_of_mem _ (List.mem_cons_of_mem _ (List.mem_cons_of_mem _ (List.mem_cons_of_mem _ List.mem_cons_self)))))) (hB _ (List.mem_cons_of_mem _ (List.mem_cons_of_mem _ (List.mem_cons_of_mem _ (List.mem_cons_of_mem _ (List.mem_cons_of_mem _ (List.mem_cons_of_mem _ List.mem_cons_self))))))) (hB _ (List.mem_cons_of_mem _ (List.mem_cons_of_mem _ (List.mem_cons_of_mem _ (List.mem_cons_of_mem _ (List.mem_cons_of_mem _ (List.mem_cons_of_mem _ (List.mem_cons_of_mem _ List.mem_cons_self)))))))) (hB _ (List.mem_cons_of_mem _ (List.mem_cons_of_mem _ (List.mem_cons_of_mem _ (List.mem_cons_of_mem _ (List.mem_cons_of_mem _ (List.mem_cons_of_mem _ (List.mem_cons_of_mem _ (List.mem_cons_of_mem _ List.mem_cons_self))))))))) (cvp 302 (x' := ((ρ 0))) (y' := (0 : Int)) (by show 0 + (1 * ρ 0 + 0) = _; omega) (by show 0 + 0 = _; omega) (hm _ List.mem_cons_self)) (cvm (c := 55) (by decide) (x' := (1 : Int)) (y' := ((ρ 2))) (by show 1 + 0 = _; omega) (by show 0 + (1 * ρ 2 + 0) = _; omega) (hm _ (List.mem_cons_of_mem _ List.mem_cons_self))) (cvp 343 (x' := ((ρ 2))) (y' := (0 : Int)) (by show 0 + (1 * ρ 2 + 0) = _; omega) (by show 0 + 0 = _; omega) (hm _ (List.mem_cons_of_mem _ (List.mem_cons_of_mem _ List.mem_cons_self)))) (cvm (c := 61) (by decide) (x' := (99 : Int)) (y' := ((ρ 3))) (by show 99 + 0 = _; omega) (by show 0 + (1 * ρ 3 + 0) = _; omega) (hm _ (List.mem_cons_of_mem _ (List.mem_cons_of_mem _ (List.mem_cons_of_mem _ List.mem_cons_self))))) (cvp 310 (x' := ((ρ 1))) (y' := ((ρ 1))) (by show 0 + (1 * ρ 1 + 0) = _; omega) (by show 0 + (1 * ρ 1 + 0) = _; omega) (hm _ (List.mem_cons_of_mem _ (List.mem_cons_of_mem _ (List.mem_cons_of_mem _ (List.mem_cons_of_mem _ List.mem_cons_self)))))) (cvm (c := 55) (by decide) (x' := (6 : Int)) (y' := ((ρ 4))) (by show 6 + 0 = _; omega) (by show 0 + (1 * ρ 4 + 0) = _; omega) (hm _ (List.mem_cons_of_mem _ (List.mem_cons_of_mem _ (List.mem_cons_of_mem _ (List.mem_cons_of_mem _ (List.mem_cons_of_mem _ List.mem_cons_self))))))) (cvp 342 (x' := ((ρ 2))) (y' := (0 : Int)) (by show 0 + (1 * ρ 2 + 0) = _; omega) (by show 0 + 0 = _; omega) (hm _ (List.mem_cons_of_mem _ (List.mem_cons_of_mem _ (List.mem_cons_of_mem _ (List.mem_cons_of_mem _ (List.mem_cons_of_mem _ (List.mem_cons_of_mem _ List.mem_cons_self)))))))) (cvp 372 (x' := ((ρ 0) + 64 * (ρ 1))) (y' := ((ρ 5))) (by show 0 + (1 * ρ 0 + (64 * ρ 1 + 0)) = _; omega) (by show 0 + (1 * ρ 5 + 0) = _; omega) (hm _ (List.mem_cons_of_mem _ (List.mem_cons_of_mem _ (List.mem_cons_of_mem _ (List.mem_cons_of_mem _ (List.mem_cons_of_mem _ (List.mem_cons_of_mem _ (List.mem_cons_of_mem _ List.mem_cons_self))))))))) (cvm (c := 60) (by decide) (x' := ((ρ 6))) (y' := ((ρ 7))) (by show 0 + (1 * ρ 6 + 0) = _; omega) (by show 0 + (1 * ρ 7 + 0) = _; omega) (hm _ (List.mem_cons_of_mem _ (List.mem_cons_of_mem _ (List.mem_cons_of_mem _ (List.mem_cons_of_mem _ (List.mem_cons_of_mem _ (List.mem_cons_of_mem _ (List.mem_cons_of_mem _ (List.mem_cons_of_mem _ List.mem_cons_self)))))))))) (cvm (c := 116) (by decide) (x' := ((ρ 6))) (y' := ((ρ 8))) (by show 0 + (1 * ρ 6 + 0) = _; omega) (by show 0 + (1 * ρ 8 + 0) = _; omega) (hm _ (List.mem_cons_of_mem _ (List.mem_cons_of_mem _ (List.mem_cons_of_mem _ (List.mem_cons_of_mem _ (List.mem_cons_of_mem _ (List.mem_cons_of_mem _ (List.mem_cons_of_mem _ (List.mem_cons_of_mem _ (List.mem_cons_of_mem _ List.mem_cons_self))))))))))) (by have h := hF _ List.mem_cons_self; have h : 0 ≤ 0 + (1 * ρ 2 + ((-1) * ρ 3 + 0)) := h; omega) (by have h := hF _ (List.mem_cons_of_mem _ List.mem_cons_self); have h : 0 ≤ 0 + ((-1) * ρ 2 + (1 * ρ 3 + 0)) := h; omega) (by have h := hF _ (List.mem_cons_of_mem _ (List.mem_cons_of_mem _ List.mem_cons_self)); have h : 0 ≤ (-1) + (1 * ρ 2 + ((-1) * ρ 6 + 0)) := h; omega) hG
  obtain ⟨f0, f1, -⟩ := H
  exact ⟨_, List.mem_cons_self, ρ, fun _ _ => rfl, okM_n, okB_n, (okF_c (by show 0 ≤ 0 + ((-1) * ρ 7 + (1 * ρ 8 + 0)); omega) (okF_c (by show 0 ≤ 0 + (1 * ρ 7 + ((-1) * ρ 8 + 0)); omega) okF_n))⟩
-- hje
theorem cr_997 (M : pM) (s0 s1 s2 : Int) (b0 : 1 ≤ s0 ∧ s0 ≤ 3) (b1 : 0 ≤ s1 ∧ s1 ≤ 1000000) (b2 : 0 ≤ s2 ∧ s2 ≤ 9) (m0 : HP 310 (s0) (s0) M) (m1 : (0 ≤ (6 : Int) ∧ M 55 (6 : Int).toNat = (s1))) (m2 : HP 342 (s2) (0 : Int) M) (m3 : (0 ≤ (1 : Int) ∧ M 55 (1 : Int).toNat = (s2))) (hG : gI M) : (0 ≤ ((-1) * s1 + 35640) ∧ True) := by
  obtain ⟨j0, T0, t1, t2, t3, t4, t5, t6, t7⟩ := Eq.mp hp_310 m0
  have eb : M 55 6 = s1 := m1.2
  have en : hnC M = s2.toNat := hnC_v (by omega) (by have h : M 55 1 = s2 := m3.2; rw [h]; omega)
  obtain ⟨r1, r2, r3⟩ := Eq.mp hp_342 m2
  have ej : j0 = T0 := by omega
  subst ej
  have k := (hj_fin (by decide) t1 (by rw [en]; omega) (fun o ho => r3 o (by rw [en] at ho; omega)) (fun t _ => Or.inr ⟨fun o ho => absurd ho (Nat.not_lt_zero o), Or.inl rfl⟩) t7).1
  rw [eb] at k
  exact ⟨by omega, trivial⟩
theorem rul_997 : Rul r_997 := by
  refine ⟨fun _ ρ M hm hB hF hG => ?_, fun gi gv hg => (by cases hg)⟩
  have H := cr_997 M (ρ 0) (ρ 1) (ρ 2) (hB _ List.mem_cons_self) (hB _ (List.mem_cons_of_mem _ List.mem_cons_self)) (hB _ (List.mem_cons_of_mem _ (List.mem_cons_of_mem _ List.mem_cons_self))) (cvp 310 (x' := ((ρ 0))) (y' := ((ρ 0))) (by show 0 + (1 * ρ 0 + 0) = _; omega) (by show 0 + (1 * ρ 0 + 0) = _; omega) (hm _ List.mem_cons_self)) (cvm (c := 55) (by decide) (x' := (6 : Int)) (y' := ((ρ 1))) (by show 6 + 0 = _; omega) (by show 0 + (1 * ρ 1 + 0) = _; omega) (hm _ (List.mem_cons_of_mem _ List.mem_cons_self))) (cvp 342 (x' := ((ρ 2))) (y' := (0 : Int)) (by show 0 + (1 * ρ 2 + 0) = _; omega) (by show 0 + 0 = _; omega) (hm _ (List.mem_cons_of_mem _ (List.mem_cons_of_mem _ List.mem_cons_self)))) (cvm (c := 55) (by decide) (x' := (1 : Int)) (y' := ((ρ 2))) (by show 1 + 0 = _; omega) (by show 0 + (1 * ρ 2 + 0) = _; omega) (hm _ (List.mem_cons_of_mem _ (List.mem_cons_of_mem _ (List.mem_cons_of_mem _ List.mem_cons_self))))) hG
  obtain ⟨f0, -⟩ := H
  exact ⟨_, List.mem_cons_self, ρ, fun _ _ => rfl, okM_n, okB_n, (okF_c (by show 0 ≤ 35640 + ((-1) * ρ 1 + 0); omega) okF_n)⟩
-- cf0
theorem cr_998 (M : pM) (s0 : Int) (b0 : 0 ≤ s0 ∧ s0 ≤ 1900) (hG : gI M) : (HP 97 (8 * s0) (0 : Int) M ∧ True) := by
  exact ⟨Eq.mpr hp_97 ⟨s0.toNat, 0, by omega, by decide, by omega, rfl⟩, trivial⟩
theorem rul_998 : Rul r_998 := by
  refine ⟨fun _ ρ M hm hB hF hG => ?_, fun gi gv hg => (by cases hg)⟩
  have H := cr_998 M (ρ 0) (hB _ List.mem_cons_self) hG
  obtain ⟨k0, -⟩ := H
  exact ⟨_, List.mem_cons_self, ρ, fun _ _ => rfl, (okM_c (pvp 97 (by show 0 + (8 * ρ 0 + 0) = _; omega) (by show 0 + 0 = _; omega) k0) okM_n), okB_n, okF_n⟩
-- qf0
theorem cr_999 (M : pM) (s0 s1 : Int) (b0 : 0 ≤ s0 ∧ s0 ≤ 1900) (b1 : (-2147483648) ≤ s1 ∧ s1 ≤ 2147483647) (hG : gI M) : (HP 96 (8 * s0) (s1) M ∧ True) := by
  exact ⟨Eq.mpr hp_96 ⟨s0.toNat, 0, by omega, by decide, by omega, fun j hj => by omega⟩, trivial⟩
theorem rul_999 : Rul r_999 := by
  refine ⟨fun _ ρ M hm hB hF hG => ?_, fun gi gv hg => (by cases hg)⟩
  have H := cr_999 M (ρ 0) (ρ 1) (hB _ List.mem_cons_self) (hB _ (List.mem_cons_of_mem _ List.mem_cons_self)) hG
  obtain ⟨k0, -⟩ := H
  exact ⟨_, List.mem_cons_self, ρ, fun _ _ => rfl, (okM_c (pvp 96 (by show 0 + (8 * ρ 0 + 0) = _; omega) (by show 0 + (1 * ρ 1 + 0) = _; omega) k0) okM_n), okB_n, okF_n⟩
