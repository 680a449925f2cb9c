-- mre_c
theorem cr_800 (M : pM) (s0 s1 s2 s3 s4 : Int) (b0 : 0 ≤ s0 ∧ s0 ≤ 36) (b1 : 0 ≤ s1 ∧ s1 ≤ 35) (b2 : 0 ≤ s2 ∧ s2 ≤ 4) (b3 : 0 ≤ s3 ∧ s3 ≤ 4) (b4 : 0 ≤ s4 ∧ s4 ≤ 4) (m0 : HP 238 (0 : Int) (512 * s0 + 8 * s1 + s2) M) (m1 : HP 232 (0 : Int) (64 * s1 + 8 * s2 + s3) M) (m2 : (0 ≤ (1 : Int) ∧ M 26 (1 : Int).toNat = (s4))) (f0 : 0 ≤ ((-1) * s3 + s4)) (f1 : 0 ≤ (s3 + (-1) * s4)) (hG : gI M) : (HP 238 (0 : Int) (512 * s0 + 8 * s1 + s3 + 8) M ∧ True) := by
  obtain ⟨N, i, r, h1, h2, h3, h4, h5, h6⟩ := Eq.mp hp_238 m0
  obtain ⟨n, b, a, k1, k2, k3, k4, k5, k6⟩ := Eq.mp hp_232 m1
  have e0_ : N = s0.toNat := by omega
  subst e0_
  have e1_ : i = s1.toNat := by omega
  subst e1_
  have e2_ : r = s2.toNat := by omega
  subst e2_
  have e3_ : n = s1.toNat := by omega
  subst e3_
  have e4_ : b = s2.toNat := by omega
  subst e4_
  have e5_ : a = s3.toNat := by omega
  subst e5_
  have eq_ : M 26 1 = s4 := m2.2
  exact ⟨Eq.mpr hp_238 ⟨s0.toNat, s1.toNat + 1, s3.toNat, by omega, by omega, by omega, by omega, by omega, ⟨s2.toNat, s3.toNat, h6, k6, Or.inr ⟨fun hh => by have := hh.2.1; omega, rfl⟩⟩⟩, trivial⟩
theorem rul_800 : Rul r_800 := by
  refine ⟨fun _ ρ M hm hB hF hG => ?_, fun gi gv hg => (by cases hg)⟩
  have H := cr_800 M (ρ 0) (ρ 1) (ρ 2) (ρ 3) (ρ 4) (hB _ List.mem_cons_self) (hB _ (List.mem_cons_of_mem _ List.mem_cons_self)) (hB _ (List.mem_cons_of_mem _ (List.mem_cons_of_mem _ List.mem_cons_self))) (hB _ (List.mem_cons_of_mem _ (List.mem_cons_of_mem _ (List.mem_cons_of_mem _ List.mem_cons_self)))) (hB _ (List.mem_cons_of_mem _ (List.mem_cons_of_mem _ (List.mem_cons_of_mem _ (List.mem_cons_of_mem _ List.mem_cons_self))))) (cvp 238 (x' := (0 : Int)) (y' := (512 * (ρ 0) + 8 * (ρ 1) + (ρ 2))) (by show 0 + 0 = _; omega) (by show 0 + (512 * ρ 0 + (8 * ρ 1 + (1 * ρ 2 + 0))) = _; omega) (hm _ List.mem_cons_self)) (cvp 232 (x' := (0 : Int)) (y' := (64 * (ρ 1) + 8 * (ρ 2) + (ρ 3))) (by show 0 + 0 = _; omega) (by show 0 + (64 * ρ 1 + (8 * ρ 2 + (1 * ρ 3 + 0))) = _; omega) (hm _ (List.mem_cons_of_mem _ List.mem_cons_self))) (cvm (c := 26) (by decide) (x' := (1 : Int)) (y' := ((ρ 4))) (by show 1 + 0 = _; omega) (by show 0 + (1 * ρ 4 + 0) = _; omega) (hm _ (List.mem_cons_of_mem _ (List.mem_cons_of_mem _ List.mem_cons_self)))) (by have h := hF _ List.mem_cons_self; have h : 0 ≤ 0 + ((-1) * ρ 3 + (1 * ρ 4 + 0)) := h; omega) (by have h := hF _ (List.mem_cons_of_mem _ List.mem_cons_self); have h : 0 ≤ 0 + (1 * ρ 3 + ((-1) * ρ 4 + 0)) := h; omega) hG
  obtain ⟨k0, -⟩ := H
  exact ⟨_, List.mem_cons_self, ρ, fun _ _ => rfl, (okM_c (pvp 238 (by show 0 + 0 = _; omega) (by show 8 + (512 * ρ 0 + (8 * ρ 1 + (1 * ρ 3 + 0))) = _; omega) k0) okM_n), okB_n, okF_n⟩
-- mrl_c
theorem cr_801 (M : pM) (s0 s1 s2 s3 : Int) (b0 : 0 ≤ s0 ∧ s0 ≤ 36) (b1 : 0 ≤ s1 ∧ s1 ≤ 35) (b2 : 0 ≤ s2 ∧ s2 ≤ 4) (b3 : 0 ≤ s3 ∧ s3 ≤ 4) (m0 : HP 238 (0 : Int) (512 * s0 + 8 * s1 + s2) M) (m1 : HP 232 (0 : Int) (64 * s1 + 8 * s2 + s3) M) (f0 : 0 ≤ ((-1) * s0 + s1 + 1)) (hG : gI M) : (HP 238 (0 : Int) (512 * s0 + 8 * s1 + s3 + 8) M ∧ True) := by
  obtain ⟨N, i, r, h1, h2, h3, h4, h5, h6⟩ := Eq.mp hp_238 m0
  obtain ⟨n, b, a, k1, k2, k3, k4, k5, k6⟩ := Eq.mp hp_232 m1
  have e0_ : N = s0.toNat := by omega
  subst e0_
  have e1_ : i = s1.toNat := by omega
  subst e1_
  have e2_ : r = s2.toNat := by omega
  subst e2_
  have e3_ : n = s1.toNat := by omega
  subst e3_
  have e4_ : b = s2.toNat := by omega
  subst e4_
  have e5_ : a = s3.toNat := by omega
  subst e5_
  exact ⟨Eq.mpr hp_238 ⟨s0.toNat, s1.toNat + 1, s3.toNat, by omega, by omega, by omega, by omega, by omega, ⟨s2.toNat, s3.toNat, h6, k6, Or.inr ⟨fun hh => by have := hh.1; omega, rfl⟩⟩⟩, trivial⟩
theorem rul_801 : Rul r_801 := by
  refine ⟨fun _ ρ M hm hB hF hG => ?_, fun gi gv hg => (by cases hg)⟩
  have H := cr_801 M (ρ 0) (ρ 1) (ρ 2) (ρ 3) (hB _ List.mem_cons_self) (hB _ (List.mem_cons_of_mem _ List.mem_cons_self)) (hB _ (List.mem_cons_of_mem _ (List.mem_cons_of_mem _ List.mem_cons_self))) (hB _ (List.mem_cons_of_mem _ (List.mem_cons_of_mem _ (List.mem_cons_of_mem _ List.mem_cons_self)))) (cvp 238 (x' := (0 : Int)) (y' := (512 * (ρ 0) + 8 * (ρ 1) + (ρ 2))) (by show 0 + 0 = _; omega) (by show 0 + (512 * ρ 0 + (8 * ρ 1 + (1 * ρ 2 + 0))) = _; omega) (hm _ List.mem_cons_self)) (cvp 232 (x' := (0 : Int)) (y' := (64 * (ρ 1) + 8 * (ρ 2) + (ρ 3))) (by show 0 + 0 = _; omega) (by show 0 + (64 * ρ 1 + (8 * ρ 2 + (1 * ρ 3 + 0))) = _; omega) (hm _ (List.mem_cons_of_mem _ List.mem_cons_self))) (by have h := hF _ List.mem_cons_self; have h : 0 ≤ 1 + ((-1) * ρ 0 + (1 * ρ 1 + 0)) := h; omega) hG
  obtain ⟨k0, -⟩ := H
  exact ⟨_, List.mem_cons_self, ρ, fun _ _ => rfl, (okM_c (pvp 238 (by show 0 + 0 = _; omega) (by show 8 + (512 * ρ 0 + (8 * ρ 1 + (1 * ρ 3 + 0))) = _; omega) k0) okM_n), okB_n, okF_n⟩
-- tf0_r
theorem cr_802 (M : pM)  (hG : gI M) : (HP 225 (0 : Int) (-1 : Int) M ∧ True) := by
  exact ⟨Eq.mpr hp_225 ⟨by omega, fun i hi => by omega⟩, trivial⟩
theorem rul_802 : Rul r_802 := by
  refine ⟨fun _ ρ M hm hB hF hG => ?_, fun gi gv hg => (by cases hg)⟩
  have H := cr_802 M hG
  obtain ⟨k0, -⟩ := H
  exact ⟨_, List.mem_cons_self, ρ, fun _ _ => rfl, (okM_c (pvp 225 (by show 0 + 0 = _; omega) (by show (-1) + 0 = _; omega) k0) okM_n), okB_n, okF_n⟩
-- tfw_r
theorem cr_803 (M : pM) (s0 : Int) (b0 : 0 ≤ s0 ∧ s0 ≤ 35) (m0 : HP 225 (s0) (-1 : Int) M) (hG : gI M) : (HP 225 (s0 + 1) (-1 : Int) (st M 106 (s0).toNat (-1 : Int)) ∧ True) := by
  refine ⟨Eq.mpr hp_225 ⟨by omega, fun i hi => ?_⟩, trivial⟩
  rw [cw0]
  by_cases e : i = s0.toNat
  · rw [if_pos e]
  · rw [if_neg e]; exact (Eq.mp hp_225 m0).2 i (by omega)
theorem rul_803 : Rul r_803 := by
  refine ⟨fun h => (by cases h), fun gi gv hg ρ M hm hB hF hG => ?_⟩
  obtain ⟨g1, g2⟩ := List.cons.inj (show ([aI ((0 : Int), ([(0, 1)] : List (Nat × Int))), aI (((-1) : Int), ([] : List (Nat × Int)))] : List av) = [.inl gi, .inl gv] from hg)
  obtain ⟨g2, -⟩ := List.cons.inj g2
  cases g1
  cases g2
  have ei : ev ρ ((0 : Int), ([(0, 1)] : List (Nat × Int))) = ((ρ 0)) := by show 0 + (1 * ρ 0 + 0) = _; omega
  have ew : ev ρ (((-1) : Int), ([] : List (Nat × Int))) = (-1 : Int) := by show (-1) + 0 = _; omega
  rw [show (st M (ctj r_803) (ev ρ ((0 : Int), ([(0, 1)] : List (Nat × Int)))).toNat (ev ρ (((-1) : Int), ([] : List (Nat × Int))))) = (st M 106 ((ρ 0)).toNat (-1 : Int)) from by rw [ei, ew]; rfl]
  have H := cr_803 M (ρ 0) (hB _ List.mem_cons_self) (cvp 225 (x' := ((ρ 0))) (y' := (-1 : Int)) (by show 0 + (1 * ρ 0 + 0) = _; omega) (by show (-1) + 0 = _; omega) (hm _ List.mem_cons_self)) hG
  obtain ⟨k0, -⟩ := H
  exact ⟨_, List.mem_cons_self, ρ, fun _ _ => rfl, (okM_c (pvp 225 (by show 1 + (1 * ρ 0 + 0) = _; omega) (by show (-1) + 0 = _; omega) k0) okM_n), okB_n, okF_n⟩
-- tfx_r
theorem cr_804 (M : pM) (s0 : Int) (b0 : 0 ≤ s0 ∧ s0 ≤ 36) (m0 : HP 225 (s0) (-1 : Int) M) (f0 : 0 ≤ (s0 - 36)) (hG : gI M) : (HP 225 (36 : Int) (-1 : Int) M ∧ True) := by
  exact ⟨Eq.mpr hp_225 ⟨by omega, fun i hi => (Eq.mp hp_225 m0).2 i (by omega)⟩, trivial⟩
theorem rul_804 : Rul r_804 := by
  refine ⟨fun _ ρ M hm hB hF hG => ?_, fun gi gv hg => (by cases hg)⟩
  have H := cr_804 M (ρ 0) (hB _ List.mem_cons_self) (cvp 225 (x' := ((ρ 0))) (y' := (-1 : Int)) (by show 0 + (1 * ρ 0 + 0) = _; omega) (by show (-1) + 0 = _; omega) (hm _ List.mem_cons_self)) (by have h := hF _ List.mem_cons_self; have h : 0 ≤ (-36) + (1 * ρ 0 + 0) := h; omega) hG
  obtain ⟨k0, -⟩ := H
  exact ⟨_, List.mem_cons_self, ρ, fun _ _ => rfl, (okM_c (pvp 225 (by show 36 + 0 = _; omega) (by show (-1) + 0 = _; omega) k0) okM_n), okB_n, okF_n⟩
-- gl0_r
theorem cr_805 (M : pM) (s0 s1 : Int) (b0 : (-2147483648) ≤ s0 ∧ s0 ≤ 2147483647) (b1 : 0 ≤ s1 ∧ s1 ≤ 7) (m0 : HP 225 (36 : Int) (-1 : Int) M) (hG : gI M) : (HP 227 (s0) (256 * s1) M ∧ True) := by
  exact ⟨Eq.mpr hp_227 ⟨s1.toNat, 0, by omega, by omega, by omega, fun s hs => by have h := (Eq.mp hp_225 m0).2 s (by omega); exact h⟩, trivial⟩
theorem rul_805 : Rul r_805 := by
  refine ⟨fun _ ρ M hm hB hF hG => ?_, fun gi gv hg => (by cases hg)⟩
  have H := cr_805 M (ρ 0) (ρ 1) (hB _ List.mem_cons_self) (hB _ (List.mem_cons_of_mem _ List.mem_cons_self)) (cvp 225 (x' := (36 : Int)) (y' := (-1 : Int)) (by show 36 + 0 = _; omega) (by show (-1) + 0 = _; omega) (hm _ List.mem_cons_self)) hG
  obtain ⟨k0, -⟩ := H
  exact ⟨_, List.mem_cons_self, ρ, fun _ _ => rfl, (okM_c (pvp 227 (by show 0 + (1 * ρ 0 + 0) = _; omega) (by show 0 + (256 * ρ 1 + 0) = _; omega) k0) okM_n), okB_n, okF_n⟩
-- glw0_r
theorem cr_806 (M : pM) (s0 s1 s2 s3 s4 s5 s6 : Int) (b0 : (-2147483648) ≤ s0 ∧ s0 ≤ 2147483647) (b1 : 0 ≤ s1 ∧ s1 ≤ 7) (b2 : 0 ≤ s2 ∧ s2 ≤ 199) (b3 : (-2147483648) ≤ s3 ∧ s3 ≤ 2147483647) (b4 : 0 ≤ s4 ∧ s4 ≤ 35) (b5 : (-2147483648) ≤ s5 ∧ s5 ≤ 2147483647) (b6 : (-2147483648) ≤ s6 ∧ s6 ≤ 2147483647) (m0 : HP 227 (s0) (256 * s1 + s2) M) (m1 : (0 ≤ (s2) ∧ M 97 (s2).toNat = (s3))) (m2 : (0 ≤ (s2) ∧ M 98 (s2).toNat = (s4))) (m3 : (0 ≤ (s2) ∧ M 101 (s2).toNat = (s5))) (m4 : (0 ≤ (s2) ∧ M 102 (s2).toNat = (s6))) (f0 : 0 ≤ (s1 + (-1) * s3)) (f1 : 0 ≤ ((-1) * s1 + s3)) (f2 : 0 ≤ (s0 + (-1) * s5)) (f3 : 0 ≤ ((-1) * s6 - 1)) (hG : gI M) : (HP 227 (s0) (256 * s1 + s2 + 1) (st M 106 (s4).toNat (s2)) ∧ True) := by
  obtain ⟨p, i, h1, h2, h3, h4⟩ := Eq.mp hp_227 m0
  have e0_ : p = s1.toNat := by omega
  subst e0_
  have e1_ : i = s2.toNat := by omega
  subst e1_
  refine ⟨Eq.mpr hp_227 ⟨s1.toNat, s2.toNat + 1, by omega, by omega, by omega, fun s hs => ?_⟩, trivial⟩
  rw [st_r (show 97 ≠ 106 by decide), st_r (show 98 ≠ 106 by decide), st_r (show 101 ≠ 106 by decide), st_r (show 102 ≠ 106 by decide), cw0]
  have w1 := m1.2
  have w2 := m2.2
  have w3 := m3.2
  have w4 := m4.2
  by_cases e : s = s4.toNat
  · rw [if_pos e, trL_s ⟨by omega, by omega, by omega, by omega⟩]; omega
  · rw [if_neg e, trL_n (fun hh => e (by obtain ⟨_, g2, _, _⟩ := hh; omega))]; exact h4 s hs
theorem rul_806 : Rul r_806 := by
  refine ⟨fun h => (by cases h), fun gi gv hg ρ M hm hB hF hG => ?_⟩
  obtain ⟨g1, g2⟩ := List.cons.inj (show ([aI ((0 : Int), ([(4, 1)] : List (Nat × Int))), aI ((0 : Int), ([(2, 1)] : List (Nat × Int)))] : List av) = [.inl gi, .inl gv] from hg)
  obtain ⟨g2, -⟩ := List.cons.inj g2
  cases g1
  cases g2
  have ei : ev ρ ((0 : Int), ([(4, 1)] : List (Nat × Int))) = ((ρ 4)) := by show 0 + (1 * ρ 4 + 0) = _; omega
  have ew : ev ρ ((0 : Int), ([(2, 1)] : List (Nat × Int))) = ((ρ 2)) := by show 0 + (1 * ρ 2 + 0) = _; omega
  rw [show (st M (ctj r_806) (ev ρ ((0 : Int), ([(4, 1)] : List (Nat × Int)))).toNat (ev ρ ((0 : Int), ([(2, 1)] : List (Nat × Int))))) = (st M 106 ((ρ 4)).toNat ((ρ 2))) from by rw [ei, ew]; rfl]
  have H := cr_806 M (ρ 0) (ρ 1) (ρ 2) (ρ 3) (ρ 4) (ρ 5) (ρ 6) (hB _ List.mem_cons_self) (hB _ (List.mem_cons_of_mem _ List.mem_cons_self)) (hB _ (List.mem_cons_of_mem _ (List.mem_cons_of_mem _ List.mem_cons_self))) (hB _ (List.mem_cons_of_mem _ (List.mem_cons_of_mem _ (List.mem_cons_of_mem _ List.mem_cons_self)))) (hB _ (List.mem_cons_of_mem _ (List.mem_cons_of_mem _ (List.mem_cons_of_mem _ (List.mem_cons_of_mem _ List.mem_cons_self))))) (hB _ (List.mem_cons_of_mem _ (List.mem_cons_of_mem _ (List.mem_cons_of_mem _ (List.mem_cons_of_mem _ (List.mem_cons_of_mem _ List.mem_cons_self)))))) (hB _ (List.mem_cons_of_mem _ (List.mem_cons_of_mem _ (List.mem_cons_of_mem _ (List.mem_cons_of_mem _ (List.mem_cons_of_mem _ (List.mem_cons_of_mem _ List.mem_cons_self))))))) (cvp 227 (x' := ((ρ 0))) (y' := (256 * (ρ 1) + (ρ 2))) (by show 0 + (1 * ρ 0 + 0) = _; omega) (by show 0 + (256 * ρ 1 + (1 * ρ 2 + 0)) = _; omega) (hm _ List.mem_cons_self)) (cvm (c := 97) (by decide) (x' := ((ρ 2))) (y' := ((ρ 3))) (by show 0 + (1 * ρ 2 + 0) = _; omega) (by show 0 + (1 * ρ 3 + 0) = _; omega) (hm _ (List.mem_cons_of_mem _ List.mem_cons_self))) (cvm (c := 98) (by decide) (x' := ((ρ 2))) (y' := ((ρ 4))) (by show 0 + (1 * ρ 2 + 0) = _; omega) (by show 0 + (1 * ρ 4 + 0) = _; omega) (hm _ (List.mem_cons_of_mem _ (List.mem_cons_of_mem _ List.mem_cons_self)))) (cvm (c := 101) (by decide) (x' := ((ρ 2))) (y' := ((ρ 5))) (by show 0 + (1 * ρ 2 + 0) = _; omega) (by show 0 + (1 * ρ 5 + 0) = _; omega) (hm _ (List.mem_cons_of_mem _ (List.mem_cons_of_mem _ (List.mem_cons_of_mem _ List.mem_cons_self))))) (cvm (c := 102) (by decide) (x' := ((ρ 2))) (y' := ((ρ 6))) (by show 0 + (1 * ρ 2 + 0) = _; omega) (by show 0 + (1 * ρ 6 + 0) = _; omega) (hm _ (List.mem_cons_of_mem _ (List.mem_cons_of_mem _ (List.mem_cons_of_mem _ (List.mem_cons_of_mem _ List.mem_cons_self)))))) (by have h := hF _ List.mem_cons_self; have h : 0 ≤ 0 + (1 * ρ 1 + ((-1) * ρ 3 + 0)) := h; omega) (by have h := hF _ (List.mem_cons_of_mem _ List.mem_cons_self); have h : 0 ≤ 0 + ((-1) * ρ 1 + (1 * ρ 3 + 0)) := h; omega) (by have h := hF _ (List.mem_cons_of_mem _ (List.mem_cons_of_mem _ List.mem_cons_self)); have h : 0 ≤ 0 + (1 * ρ 0 + ((-1) * ρ 5 + 0)) := h; omega) (by have h := hF _ (List.mem_cons_of_mem _ (List.mem_cons_of_mem _ (List.mem_cons_of_mem _ List.mem_cons_self))); have h : 0 ≤ (-1) + ((-1) * ρ 6 + 0) := h; omega) hG
  obtain ⟨k0, -⟩ := H
  exact ⟨_, List.mem_cons_self, ρ, fun _ _ => rfl, (okM_c (pvp 227 (by show 0 + (1 * ρ 0 + 0) = _; omega) (by show 1 + (256 * ρ 1 + (1 * ρ 2 + 0)) = _; omega) k0) okM_n), okB_n, okF_n⟩
-- glw1_r
theorem cr_807 (M : pM) (s0 s1 s2 s3 s4 s5 s6 : Int) (b0 : (-2147483648) ≤ s0 ∧ s0 ≤ 2147483647) (b1 : 0 ≤ s1 ∧ s1 ≤ 7) (b2 : 0 ≤ s2 ∧ s2 ≤ 199) (b3 : (-2147483648) ≤ s3 ∧ s3 ≤ 2147483647) (b4 : 0 ≤ s4 ∧ s4 ≤ 35) (b5 : (-2147483648) ≤ s5 ∧ s5 ≤ 2147483647) (b6 : (-2147483648) ≤ s6 ∧ s6 ≤ 2147483647) (m0 : HP 227 (s0) (256 * s1 + s2) M) (m1 : (0 ≤ (s2) ∧ M 97 (s2).toNat = (s3))) (m2 : (0 ≤ (s2) ∧ M 98 (s2).toNat = (s4))) (m3 : (0 ≤ (s2) ∧ M 101 (s2).toNat = (s5))) (m4 : (0 ≤ (s2) ∧ M 102 (s2).toNat = (s6))) (f0 : 0 ≤ (s1 + (-1) * s3)) (f1 : 0 ≤ ((-1) * s1 + s3)) (f2 : 0 ≤ (s0 + (-1) * s5)) (f3 : 0 ≤ ((-1) * s0 + s6 - 1)) (hG : gI M) : (HP 227 (s0) (256 * s1 + s2 + 1) (st M 106 (s4).toNat (s2)) ∧ True) := by
  obtain ⟨p, i, h1, h2, h3, h4⟩ := Eq.mp hp_227 m0
  have e0_ : p = s1.toNat := by omega
  subst e0_
  have e1_ : i = s2.toNat := by omega
  subst e1_
  refine ⟨Eq.mpr hp_227 ⟨s1.toNat, s2.toNat + 1, by omega, by omega, by omega, fun s hs => ?_⟩, trivial⟩
  rw [st_r (show 97 ≠ 106 by decide), st_r (show 98 ≠ 106 by decide), st_r (show 101 ≠ 106 by decide), st_r (show 102 ≠ 106 by decide), cw0]
  have w1 := m1.2
  have w2 := m2.2
  have w3 := m3.2
  have w4 := m4.2
  by_cases e : s = s4.toNat
  · rw [if_pos e, trL_s ⟨by omega, by omega, by omega, by omega⟩]; omega
  · rw [if_neg e, trL_n (fun hh => e (by obtain ⟨_, g2, _, _⟩ := hh; omega))]; exact h4 s hs
theorem rul_807 : Rul r_807 := by
  refine ⟨fun h => (by cases h), fun gi gv hg ρ M hm hB hF hG => ?_⟩
  obtain ⟨g1, g2⟩ := List.cons.inj (show ([aI ((0 : Int), ([(4, 1)] : List (Nat × Int))), aI ((0 : Int), ([(2, 1)] : List (Nat × Int)))] : List av) = [.inl gi, .inl gv] from hg)
  obtain ⟨g2, -⟩ := List.cons.inj g2
  cases g1
  cases g2
  have ei : ev ρ ((0 : Int), ([(4, 1)] : List (Nat × Int))) = ((ρ 4)) := by show 0 + (1 * ρ 4 + 0) = _; omega
  have ew : ev ρ ((0 : Int), ([(2, 1)] : List (Nat × Int))) = ((ρ 2)) := by show 0 + (1 * ρ 2 + 0) = _; omega
  rw [show (st M (ctj r_807) (ev ρ ((0 : Int), ([(4, 1)] : List (Nat × Int)))).toNat (ev ρ ((0 : Int), ([(2, 1)] : List (Nat × Int))))) = (st M 106 ((ρ 4)).toNat ((ρ 2))) from by rw [ei, ew]; rfl]
  have H := cr_807 M (ρ 0) (ρ 1) (ρ 2) (ρ 3) (ρ 4) (ρ 5) (ρ 6) (hB _ List.mem_cons_self) (hB _ (List.mem_cons_of_mem _ List.mem_cons_self)) (hB _ (List.mem_cons_of_mem _ (List.mem_cons_of_mem _ List.mem_cons_self))) (hB _ (List.mem_cons_of_mem _ (List.mem_cons_of_mem _ (List.mem_cons_of_mem _ List.mem_cons_self)))) (hB _ (List.mem_cons_of_mem _ (List.mem_cons_of_mem _ (List.mem_cons_of_mem _ (List.mem_cons_of_mem _ List.mem_cons_self))))) (hB _ (List.mem_cons_of_mem _ (List.mem_cons_of_mem _ (List.mem_cons_of_mem _ (List.mem_cons_of_mem _ (List.mem_cons_of_mem _ List.mem_cons_self)))))) (hB _ (List.mem_cons_of_mem _ (List.mem_cons_of_mem _ (List.mem_cons_of_mem _ (List.mem_cons_of_mem _ (List.mem_cons_of_mem _ (List.mem_cons_of_mem _ List.mem_cons_self))))))) (cvp 227 (x' := ((ρ 0))) (y' := (256 * (ρ 1) + (ρ 2))) (by show 0 + (1 * ρ 0 + 0) = _; omega) (by show 0 + (256 * ρ 1 + (1 * ρ 2 + 0)) = _; omega) (hm _ List.mem_cons_self)) (cvm (c := 97) (by decide) (x' := ((ρ 2))) (y' := ((ρ 3))) (by show 0 + (1 * ρ 2 + 0) = _; omega) (by show 0 + (1 * ρ 3 + 0) = _; omega) (hm _ (List.mem_cons_of_mem _ List.mem_cons_self))) (cvm (c := 98) (by decide) (x' := ((ρ 2))) (y' := ((ρ 4))) (by show 0 + (1 * ρ 2 + 0) = _; omega) (by show 0 + (1 * ρ 4 + 0) = _; omega) (hm _ (List.mem_cons_of_mem _ (List.mem_cons_of_mem _ List.mem_cons_self)))) (cvm (c := 101) (by decide) (x' := ((ρ 2))) (y' := ((ρ 5))) (by show 0 + (1 * ρ 2 + 0) = _; omega) (by show 0 + (1 * ρ 5 + 0) = _; omega) (hm _ (List.mem_cons_of_mem _ (List.mem_cons_of_mem _ (List.mem_cons_of_mem _ List.mem_cons_self))))) (cvm (c := 102) (by decide) (x' := ((ρ 2))) (y' := ((ρ 6))) (by show 0 + (1 * ρ 2 + 0) = _; omega) (by show 0 + (1 * ρ 6 + 0) = _; omega) (hm _ (List.mem_cons_of_mem _ (List.mem_cons_of_mem _ (List.mem_cons_of_mem _ (List.mem_cons_of_mem _ List.mem_cons_self)))))) (by have h := hF _ List.mem_cons_self; have h : 0 ≤ 0 + (1 * ρ 1 + ((-1) * ρ 3 + 0)) := h; omega) (by have h := hF _ (List.mem_cons_of_mem _ List.mem_cons_self); have h : 0 ≤ 0 + ((-1) * ρ 1 + (1 * ρ 3 + 0)) := h; omega) (by have h := hF _ (List.mem_cons_of_mem _ (List.mem_cons_of_mem _ List.mem_cons_self)); have h : 0 ≤ 0 + (1 * ρ 0 + ((-1) * ρ 5 + 0)) := h; omega) (by have h := hF _ (List.mem_cons_of_mem _ (List.mem_cons_of_mem _ (List.mem_cons_of_mem _ List.mem_cons_self))); have h : 0 ≤ (-1) + ((-1) * ρ 0 + (1 * ρ 6 + 0)) := h; omega) hG
  obtain ⟨k0, -⟩ := H
  exact ⟨_, List.mem_cons_self, ρ, fun _ _ => rfl, (okM_c (pvp 227 (by show 0 + (1 * ρ 0 + 0) = _; omega) (by show 1 + (256 * ρ 1 + (1 * ρ 2 + 0)) = _; omega) k0) okM_n), okB_n, okF_n⟩
-- gln0_r
theorem cr_808 (M : pM) (s0 s1 s2 s3 : Int) (b0 : (-2147483648) ≤ s0 ∧ s0 ≤ 2147483647) (b1 : 0 ≤ s1 ∧ s1 ≤ 7) (b2 : 0 ≤ s2 ∧ s2 ≤ 199) (b3 : (-2147483648) ≤ s3 ∧ s3 ≤ 2147483647) (m0 : HP 227 (s0) (256 * s1 + s2) M) (m1 : (0 ≤ (s2) ∧ M 97 (s2).toNat = (s3))) (f0 : 0 ≤ (s1 + (-1) * s3 - 1)) (hG : gI M) : (HP 227 (s0) (256 * s1 + s2 + 1) M ∧ True) := by
  obtain ⟨p, i, h1, h2, h3, h4⟩ := Eq.mp hp_227 m0
  have e0_ : p = s1.toNat := by omega
  subst e0_
  have e1_ : i = s2.toNat := by omega
  subst e1_
  refine ⟨Eq.mpr hp_227 ⟨s1.toNat, s2.toNat + 1, by omega, by omega, by omega, fun s hs => ?_⟩, trivial⟩
  rw [trL_n (fun hh => by obtain ⟨g1, g2, g3, g4⟩ := hh; have e := m1.2; omega)]
  exact h4 s hs
theorem rul_808 : Rul r_808 := by
  refine ⟨fun _ ρ M hm hB hF hG => ?_, fun gi gv hg => (by cases hg)⟩
  have H := cr_808 M (ρ 0) (ρ 1) (ρ 2) (ρ 3) (hB _ List.mem_cons_self) (hB _ (List.mem_cons_of_mem _ List.mem_cons_self)) (hB _ (List.mem_cons_of_mem _ (List.mem_cons_of_mem _ List.mem_cons_self))) (hB _ (List.mem_cons_of_mem _ (List.mem_cons_of_mem _ (List.mem_cons_of_mem _ List.mem_cons_self)))) (cvp 227 (x' := ((ρ 0))) (y' := (256 * (ρ 1) + (ρ 2))) (by show 0 + (1 * ρ 0 + 0) = _; omega) (by show 0 + (256 * ρ 1 + (1 * ρ 2 + 0)) = _; omega) (hm _ List.mem_cons_self)) (cvm (c := 97) (by decide) (x' := ((ρ 2))) (y' := ((ρ 3))) (by show 0 + (1 * ρ 2 + 0) = _; omega) (by show 0 + (1 * ρ 3 + 0) = _; omega) (hm _ (List.mem_cons_of_mem _ List.mem_cons_self))) (by have h := hF _ List.mem_cons_self; have h : 0 ≤ (-1) + (1 * ρ 1 + ((-1) * ρ 3 + 0)) := h; omega) hG
  obtain ⟨k0, -⟩ := H
  exact ⟨_, List.mem_cons_self, ρ, fun _ _ => rfl, (okM_c (pvp 227 (by show 0 + (1 * ρ 0 + 0) = _; omega) (by show 1 + (256 * ρ 1 + (1 * ρ 2 + 0)) = _; omega) k0) okM_n), okB_n, okF_n⟩
-- gln1_r
theorem cr_809 (M : pM) (s0 s1 s2 s3 : Int) (b0 : (-2147483648) ≤ s0 ∧ s0 ≤ 2147483647) (b1 : 0 ≤ s1 ∧ s1 ≤ 7) (b2 : 0 ≤ s2 ∧ s2 ≤ 199) (b3 : (-2147483648) ≤ s3 ∧ s3 ≤ 2147483647) (m0 : HP 227 (s0) (256 * s1 + s2) M) (m1 : (0 ≤ (s2) ∧ M 97 (s2).toNat = (s3))) (f0 : 0 ≤ ((-1) * s1 + s3 - 1)) (hG : gI M) : (HP 227 (s0) (256 * s1 + s2 + 1) M ∧ True) := by
  obtain ⟨p, i, h1, h2, h3, h4⟩ := Eq.mp hp_227 m0
  have e0_ : p = s1.toNat := by omega
  subst e0_
  have e1_ : i = s2.toNat := by omega
  subst e1_
  refine ⟨Eq.mpr hp_227 ⟨s1.toNat, s2.toNat + 1, by omega, by omega, by omega, fun s hs => ?_⟩, trivial⟩
  rw [trL_n (fun hh => by obtain ⟨g1, g2, g3, g4⟩ := hh; have e := m1.2; omega)]
  exact h4 s hs
theorem rul_809 : Rul r_809 := by
  refine ⟨fun _ ρ M hm hB hF hG => ?_, fun gi gv hg => (by cases hg)⟩
  have H := cr_809 M (ρ 0) (ρ 1) (ρ 2) (ρ 3) (hB _ List.mem_cons_self) (hB _ (List.mem_cons_of_mem _ List.mem_cons_self)) (hB _ (List.mem_cons_of_mem _ (List.mem_cons_of_mem _ List.mem_cons_self))) (hB _ (List.mem_cons_of_mem _ (List.mem_cons_of_mem _ (List.mem_cons_of_mem _ List.mem_cons_self)))) (cvp 227 (x' := ((ρ 0))) (y' := (256 * (ρ 1) + (ρ 2))) (by show 0 + (1 * ρ 0 + 0) = _; omega) (by show 0 + (256 * ρ 1 + (1 * ρ 2 + 0)) = _; omega) (hm _ List.mem_cons_self)) (cvm (c := 97) (by decide) (x' := ((ρ 2))) (y' := ((ρ 3))) (by show 0 + (1 * ρ 2 + 0) = _; omega) (by show 0 + (1 * ρ 3 + 0) = _; omega) (hm _ (List.mem_cons_of_mem _ List.mem_cons_self))) (by have h := hF _ List.mem_cons_self; have h : 0 ≤ (-1) + ((-1) * ρ 1 + (1 * ρ 3 + 0)) := h; omega) hG
  obtain ⟨k0, -⟩ := H
  exact ⟨_, List.mem_cons_self, ρ, fun _ _ => rfl, (okM_c (pvp 227 (by show 0 + (1 * ρ 0 + 0) = _; omega) (by show 1 + (256 * ρ 1 + (1 * ρ 2 + 0)) = _; omega) k0) okM_n), okB_n, okF_n⟩
-- gln2_r
theorem cr_810 (M : pM) (s0 s1 s2 s3 : Int) (b0 : (-2147483648) ≤ s0 ∧ s0 ≤ 2147483647) (b1 : 0 ≤ s1 ∧ s1 ≤ 7) (b2 : 0 ≤ s2 ∧ s2 ≤ 199) (b3 : (-2147483648) ≤ s3 ∧ s3 ≤ 2147483647) (m0 : HP 227 (s0) (256 * s1 + s2) M) (m1 : (0 ≤ (s2) ∧ M 101 (s2).toNat = (s3))) (f0 : 0 ≤ ((-1) * s0 + s3 - 1)) (hG : gI M) : (HP 227 (s0) (256 * s1 + s2 + 1) M ∧ True) := by
  obtain ⟨p, i, h1, h2, h3, h4⟩ := Eq.mp hp_227 m0
  have e0_ : p = s1.toNat := by omega
  subst e0_
  have e1_ : i = s2.toNat := by omega
  subst e1_
  refine ⟨Eq.mpr hp_227 ⟨s1.toNat, s2.toNat + 1, by omega, by omega, by omega, fun s hs => ?_⟩, trivial⟩
  rw [trL_n (fun hh => by obtain ⟨g1, g2, g3, g4⟩ := hh; have e := m1.2; omega)]
  exact h4 s hs
theorem rul_810 : Rul r_810 := by
  refine ⟨fun _ ρ M hm hB hF hG => ?_, fun gi gv hg => (by cases hg)⟩
  have H := cr_810 M (ρ 0) (ρ 1) (ρ 2) (ρ 3) (hB _ List.mem_cons_self) (hB _ (List.mem_cons_of_mem _ List.mem_cons_self)) (hB _ (List.mem_cons_of_mem _ (List.mem_cons_of_mem _ List.mem_cons_self))) (hB _ (List.mem_cons_of_mem _ (List.mem_cons_of_mem _ (List.mem_cons_of_mem _ List.mem_cons_self)))) (cvp 227 (x' := ((ρ 0))) (y' := (256 * (ρ 1) + (ρ 2))) (by show 0 + (1 * ρ 0 + 0) = _; omega) (by show 0 + (256 * ρ 1 + (1 * ρ 2 + 0)) = _; omega) (hm _ List.mem_cons_self)) (cvm (c := 101) (by decide) (x' := ((ρ 2))) (y' := ((ρ 3))) (by show 0 + (1 * ρ 2 + 0) = _; omega) (by show 0 + (1 * ρ 3 + 0) = _; omega) (hm _ (List.mem_cons_of_mem _ List.mem_cons_self))) (by have h := hF _ List.mem_cons_self; have h : 0 ≤ (-1) + ((-1) * ρ 0 + (1 * ρ 3 + 0)) := h; omega) hG
  obtain ⟨k0, -⟩ := H
  exact ⟨_, List.mem_cons_self, ρ, fun _ _ => rfl, (okM_c (pvp 227 (by show 0 + (1 * ρ 0 + 0) = _; omega) (by show 1 + (256 * ρ 1 + (1 * ρ 2 + 0)) = _; omega) k0) okM_n), okB_n, okF_n⟩
-- gln3_r
theorem cr_811 (M : pM) (s0 s1 s2 s3 : Int) (b0 : (-2147483648) ≤ s0 ∧ s0 ≤ 2147483647) (b1 : 0 ≤ s1 ∧ s1 ≤ 7) (b2 : 0 ≤ s2 ∧ s2 ≤ 199) (b3 : (-2147483648) ≤ s3 ∧ s3 ≤ 2147483647) (m0 : HP 227 (s0) (256 * s1 + s2) M) (m1 : (0 ≤ (s2) ∧ M 102 (s2).toNat = (s3))) (f0 : 0 ≤ (s3)) (f1 : 0 ≤ (s0 + (-1) * s3)) (hG : gI M) : (HP 227 (s0) (256 * s1 + s2 + 1) M ∧ True) := by
  obtain ⟨p, i, h1, h2, h3, h4⟩ := Eq.mp hp_227 m0
  have e0_ : p = s1.toNat := by omega
  subst e0_
  have e1_ : i = s2.toNat := by omega
  subst e1_
  refine ⟨Eq.mpr hp_227 ⟨s1.toNat, s2.toNat + 1, by omega, by omega, by omega, fun s hs => ?_⟩, trivial⟩
  rw [trL_n (fun hh => by obtain ⟨g1, g2, g3, g4⟩ := hh; have e := m1.2; omega)]
  exact h4 s hs
theorem rul_811 : Rul r_811 := by
  refine ⟨fun _ ρ M hm hB hF hG => ?_, fun gi gv hg => (by cases hg)⟩
  have H := cr_811 M (ρ 0) (ρ 1) (ρ 2) (ρ 3) (hB _ List.mem_cons_self) (hB _ (List.mem_cons_of_mem _ List.mem_cons_self)) (hB _ (List.mem_cons_of_mem _ (List.mem_cons_of_mem _ List.mem_cons_self))) (hB _ (List.mem_cons_of_mem _ (List.mem_cons_of_mem _ (List.mem_cons_of_mem _ List.mem_cons_self)))) (cvp 227 (x' := ((ρ 0))) (y' := (256 * (ρ 1) + (ρ 2))) (by show 0 + (1 * ρ 0 + 0) = _; omega) (by show 0 + (256 * ρ 1 + (1 * ρ 2 + 0)) = _; omega) (hm _ List.mem_cons_self)) (cvm (c := 102) (by decide) (x' := ((ρ 2))) (y' := ((ρ 3))) (by show 0 + (1 * ρ 2 + 0) = _; omega) (by show 0 + (1 * ρ 3 + 0) = _; omega) (hm _ (List.mem_cons_of_mem _ List.mem_cons_self))) (by have h := hF _ List.mem_cons_self; have h : 0 ≤ 0 + (1 * ρ 3 + 0) := h; omega) (by have h := hF _ (List.mem_cons_of_mem _ List.mem_cons_self); have h : 0 ≤ 0 + (1 * ρ 0 + ((-1) * ρ 3 + 0)) := h; omega) hG
  obtain ⟨k0, -⟩ := H
  exact ⟨_, List.mem_cons_self, ρ, fun _ _ => rfl, (okM_c (pvp 227 (by show 0 + (1 * ρ 0 + 0) = _; omega) (by show 1 + (256 * ρ 1 + (1 * ρ 2 + 0)) = _; omega) k0) okM_n), okB_n, okF_n⟩
-- gb0_r
theorem cr_812 (M : pM) (s0 s1 s2 : Int) (b0 : (-2147483648) ≤ s0 ∧ s0 ≤ 2147483647) (b1 : 0 ≤ s1 ∧ s1 ≤ 7) (b2 : 0 ≤ s2 ∧ s2 ≤ 200) (m0 : HP 227 (s0) (256 * s1 + s2) M) (m1 : (0 ≤ (65 : Int) ∧ M 61 (65 : Int).toNat = (s2))) (hG : gI M) : (HP 229 (s0) (4096 * s1) M ∧ True) := by
  obtain ⟨p, i, h1, h2, h3, h4⟩ := Eq.mp hp_227 m0
  have eF : M 61 65 = s2 := m1.2
  have e0_ : p = s1.toNat := by omega
  subst e0_
  have e1_ : i = s2.toNat := by omega
  subst e1_
  refine ⟨Eq.mpr hp_229 ⟨s1.toNat, 0, by omega, by omega, by show _ = 4096 * (s1.toNat : Int) + 64 * ((0 : Nat) : Int) + ((0 : Nat) : Int); omega, by omega, by omega, fun q hq => ?_, fun q hq => absurd hq (Nat.not_lt_zero q)⟩, trivial⟩
  rw [eF]
  exact h4 q hq
theorem rul_812 : Rul r_812 := by
  refine ⟨fun _ ρ M hm hB hF hG => ?_, fun gi gv hg => (by cases hg)⟩
  have H := cr_812 M (ρ 0) (ρ 1) (ρ 2) (hB _ List.mem_cons_self) (hB _ (List.mem_cons_of_mem _ List.mem_cons_self)) (hB _ (List.mem_cons_of_mem _ (List.mem_cons_of_mem _ List.mem_cons_self))) (cvp 227 (x' := ((ρ 0))) (y' := (256 * (ρ 1) + (ρ 2))) (by show 0 + (1 * ρ 0 + 0) = _; omega) (by show 0 + (256 * ρ 1 + (1 * ρ 2 + 0)) = _; omega) (hm _ List.mem_cons_self)) (cvm (c := 61) (by decide) (x' := (65 : Int)) (y' := ((ρ 2))) (by show 65 + 0 = _; omega) (by show 0 + (1 * ρ 2 + 0) = _; omega) (hm _ (List.mem_cons_of_mem _ List.mem_cons_self))) hG
  obtain ⟨k0, -⟩ := H
  exact ⟨_, List.mem_cons_self, ρ, fun _ _ => rfl, (okM_c (pvp 229 (by show 0 + (1 * ρ 0 + 0) = _; omega) (by show 0 + (4096 * ρ 1 + 0) = _; omega) k0) okM_n), okB_n, okF_n⟩
-- gbs_r
theorem cr_813 (M : pM) (s0 s1 s2 s3 s4 : Int) (b0 : (-2147483648) ≤ s0 ∧ s0 ≤ 2147483647) (b1 : 0 ≤ s1 ∧ s1 ≤ 7) (b2 : 0 ≤ s2 ∧ s2 ≤ 35) (b3 : 0 ≤ s3 ∧ s3 ≤ 36) (b4 : (-2147483648) ≤ s4 ∧ s4 ≤ 2147483647) (m0 : HP 229 (s0) (4096 * s1 + 64 * s2 + s3) M) (m1 : (0 ≤ (s2) ∧ M 106 (s2).toNat = (s4))) (f0 : 0 ≤ ((-1) * s4 - 1)) (hG : gI M) : (HP 229 (s0) (4096 * s1 + 64 * s2 + s3 + 64) M ∧ True) := by
  obtain ⟨p, s, h1, h2, h3, h4, h5, h6, h7⟩ := Eq.mp hp_229 m0
  have l1 : trN (M 106) s ≤ s := trN_le
  have e0_ : p = s1.toNat := by omega
  subst e0_
  have e1_ : s = s2.toNat := by omega
  subst e1_
  have ec : trN (M 106) s2.toNat = s3.toNat := by omega
  have ev : M 106 s2.toNat = s4 := m1.2
  have en : trN (M 106) (s2.toNat + 1) = trN (M 106) s2.toNat := if_pos (by omega)
  refine ⟨Eq.mpr hp_229 ⟨s1.toNat, s2.toNat + 1, by omega, by omega, by rw [en]; omega, h4, h5, h6, fun q hq hl => ?_⟩, trivial⟩
  by_cases e : q = s2.toNat
  · rw [e, ev] at hl; omega
  · exact h7 q (by omega) hl
theorem rul_813 : Rul r_813 := by
  refine ⟨fun _ ρ M hm hB hF hG => ?_, fun gi gv hg => (by cases hg)⟩
  have H := cr_813 M (ρ 0) (ρ 1) (ρ 2) (ρ 3) (ρ 4) (hB _ List.mem_cons_self) (hB _ (List.mem_cons_of_mem _ List.mem_cons_self)) (hB _ (List.mem_cons_of_mem _ (List.mem_cons_of_mem _ List.mem_cons_self))) (hB _ (List.mem_cons_of_mem _ (List.mem_cons_of_mem _ (List.mem_cons_of_mem _ List.mem_cons_self)))) (hB _ (List.mem_cons_of_mem _ (List.mem_cons_of_mem _ (List.mem_cons_of_mem _ (List.mem_cons_of_mem _ List.mem_cons_self))))) (cvp 229 (x' := ((ρ 0))) (y' := (4096 * (ρ 1) + 64 * (ρ 2) + (ρ 3))) (by show 0 + (1 * ρ 0 + 0) = _; omega) (by show 0 + (4096 * ρ 1 + (64 * ρ 2 + (1 * ρ 3 + 0))) = _; omega) (hm _ List.mem_cons_self)) (cvm (c := 106) (by decide) (x' := ((ρ 2))) (y' := ((ρ 4))) (by show 0 + (1 * ρ 2 + 0) = _; omega) (by show 0 + (1 * ρ 4 + 0) = _; omega) (hm _ (List.mem_cons_of_mem _ List.mem_cons_self))) (by have h := hF _ List.mem_cons_self; have h : 0 ≤ (-1) + ((-1) * ρ 4 + 0) := h; omega) hG
  obtain ⟨k0, -⟩ := H
  exact ⟨_, List.mem_cons_self, ρ, fun _ _ => rfl, (okM_c (pvp 229 (by show 0 + (1 * ρ 0 + 0) = _; omega) (by show 64 + (4096 * ρ 1 + (64 * ρ 2 + (1 * ρ 3 + 0))) = _; omega) k0) okM_n), okB_n, okF_n⟩
-- gbw103_r
theorem cr_814 (M : pM) (s0 s1 s2 s3 s4 s5 : Int) (b0 : (-2147483648) ≤ s0 ∧ s0 ≤ 2147483647) (b1 : 0 ≤ s1 ∧ s1 ≤ 7) (b2 : 0 ≤ s2 ∧ s2 ≤ 35) (b3 : 0 ≤ s3 ∧ s3 ≤ 36) (b4 : 0 ≤ s4 ∧ s4 ≤ 35) (b5 : (-2147483648) ≤ s5 ∧ s5 ≤ 2147483647) (m0 : HP 229 (s0) (4096 * s1 + 64 * s2 + s3) M) (f0 : 0 ≤ ((-1) * s3 + s4)) (hG : gI M) : (HP 229 (s0) (4096 * s1 + 64 * s2 + s3) (st M 103 (s4).toNat (s5)) ∧ True) := by
  obtain ⟨p, s, h1, h2, h3, h4, h5, h6, h7⟩ := Eq.mp hp_229 m0
  have l1 : trN (M 106) s ≤ s := trN_le
  have e0_ : p = s1.toNat := by omega
  subst e0_
  have e1_ : s = s2.toNat := by omega
  subst e1_
  have ec : trN (M 106) s2.toNat = s3.toNat := by omega
  refine ⟨Eq.mpr hp_229 ?_, trivial⟩
  rw [st_r (show 106 ≠ 103 by decide), st_r (show 97 ≠ 103 by decide), st_r (show 98 ≠ 103 by decide), st_r (show 101 ≠ 103 by decide), st_r (show 102 ≠ 103 by decide), st_r (show 99 ≠ 103 by decide), st_r (show 100 ≠ 103 by decide), st_r (show 104 ≠ 103 by decide), st_r (show 105 ≠ 103 by decide), st_r (show 61 ≠ 103 by decide)]
  refine ⟨s1.toNat, s2.toNat, by omega, by omega, by omega, h4, h5, h6, fun q hq hl => ?_⟩
  obtain ⟨d1, d2, d3⟩ := h7 q hq hl
  have hlt : trN (M 106) q < s3.toNat := by rw [← ec]; exact trN_lt hq hl
  rw [cw0, if_neg (by omega)]
  exact ⟨d1, d2, d3⟩
theorem rul_814 : Rul r_814 := by
  refine ⟨fun h => (by cases h), fun gi gv hg ρ M hm hB hF hG => ?_⟩
  obtain ⟨g1, g2⟩ := List.cons.inj (show ([aI ((0 : Int), ([(4, 1)] : List (Nat × Int))), aI ((0 : Int), ([(5, 1)] : List (Nat × Int)))] : List av) = [.inl gi, .inl gv] from hg)
  obtain ⟨g2, -⟩ := List.cons.inj g2
  cases g1
  cases g2
  have ei : ev ρ ((0 : Int), ([(4, 1)] : List (Nat × Int))) = ((ρ 4)) := by show 0 + (1 * ρ 4 + 0) = _; omega
  have ew : ev ρ ((0 : Int), ([(5, 1)] : List (Nat × Int))) = ((ρ 5)) := by show 0 + (1 * ρ 5 + 0) = _; omega
  rw [show (st M (ctj r_814) (ev ρ ((0 : Int), ([(4, 1)] : List (Nat × Int)))).toNat (ev ρ ((0 : Int), ([(5, 1)] : List (Nat × Int))))) = (st M 103 ((ρ 4)).toNat ((ρ 5))) from by rw [ei, ew]; rfl]
  have H := cr_814 M (ρ 0) (ρ 1) (ρ 2) (ρ 3) (ρ 4) (ρ 5) (hB _ List.mem_cons_self) (hB _ (List.mem_cons_of_mem _ List.mem_cons_self)) (hB _ (List.mem_cons_of_mem _ (List.mem_cons_of_mem _ List.mem_cons_self))) (hB _ (List.mem_cons_of_mem _ (List.mem_cons_of_mem _ (List.mem_cons_of_mem _ List.mem_cons_self)))) (hB _ (List.mem_cons_of_mem _ (List.mem_cons_of_mem _ (List.mem_cons_of_mem _ (List.mem_cons_of_mem _ List.mem_cons_self))))) (hB _ (List.mem_cons_of_mem _ (List.mem_cons_of_mem _ (List.mem_cons_of_mem _ (List.mem_cons_of_mem _ (List.mem_cons_of_mem _ List.mem_cons_self)))))) (cvp 229 (x' := ((ρ 0))) (y' := (4096 * (ρ 1) + 64 * (ρ 2) + (ρ 3))) (by show 0 + (1 * ρ 0 + 0) = _; omega) (by show 0 + (4096 * ρ 1 + (64 * ρ 2 + (1 * ρ 3 + 0))) = _; omega) (hm _ List.mem_cons_self)) (by have h := hF _ List.mem_cons_self; have h : 0 ≤ 0 + ((-1) * ρ 3 + (1 * ρ 4 + 0)) := h; omega) hG
  obtain ⟨k0, -⟩ := H
  exact ⟨_, List.mem_cons_self, ρ, fun _ _ => rfl, (okM_c (pvp 229 (by show 0 + (1 * ρ 0 + 0) = _; omega) (by show 0 + (4096 * ρ 1 + (64 * ρ 2 + (1 * ρ 3 + 0))) = _; omega) k0) okM_n), okB_n, okF_n⟩
-- gbw104_r
theorem cr_815 (M : pM) (s0 s1 s2 s3 s4 s5 : Int) (b0 : (-2147483648) ≤ s0 ∧ s0 ≤ 2147483647) (b1 : 0 ≤ s1 ∧ s1 ≤ 7) (b2 : 0 ≤ s2 ∧ s2 ≤ 35) (b3 : 0 ≤ s3 ∧ s3 ≤ 36) (b4 : 0 ≤ s4 ∧ s4 ≤ 35) (b5 : (-2147483648) ≤ s5 ∧ s5 ≤ 2147483647) (m0 : HP 229 (s0) (4096 * s1 + 64 * s2 + s3) M) (f0 : 0 ≤ ((-1) * s3 + s4)) (hG : gI M) : (HP 229 (s0) (4096 * s1 + 64 * s2 + s3) (st M 104 (s4).toNat (s5)) ∧ True) := by
  obtain ⟨p, s, h1, h2, h3, h4, h5, h6, h7⟩ := Eq.mp hp_229 m0
  have l1 : trN (M 106) s ≤ s := trN_le
  have e0_ : p = s1.toNat := by omega
  subst e0_
  have e1_ : s = s2.toNat := by omega
  subst e1_
  have ec : trN (M 106) s2.toNat = s3.toNat := by omega
  refine ⟨Eq.mpr hp_229 ?_, trivial⟩
  rw [st_r (show 106 ≠ 104 by decide), st_r (show 97 ≠ 104 by decide), st_r (show 98 ≠ 104 by decide), st_r (show 101 ≠ 104 by decide), st_r (show 102 ≠ 104 by decide), st_r (show 99 ≠ 104 by decide), st_r (show 100 ≠ 104 by decide), st_r (show 103 ≠ 104 by decide), st_r (show 105 ≠ 104 by decide), st_r (show 61 ≠ 104 by decide)]
  refine ⟨s1.toNat, s2.toNat, by omega, by omega, by omega, h4, h5, h6, fun q hq hl => ?_⟩
  obtain ⟨d1, d2, d3⟩ := h7 q hq hl
  have hlt : trN (M 106) q < s3.toNat := by rw [← ec]; exact trN_lt hq hl
  rw [cw0, if_neg (by omega)]
  exact ⟨d1, d2, d3⟩
theorem rul_815 : Rul r_815 := by
  refine ⟨fun h => (by cases h), fun gi gv hg ρ M hm hB hF hG => ?_⟩
  obtain ⟨g1, g2⟩ := List.cons.inj (show ([aI ((0 : Int), ([(4, 1)] : List (Nat × Int))), aI ((0 : Int), ([(5, 1)] : List (Nat × Int)))] : List av) = [.inl gi, .inl gv] from hg)
  obtain ⟨g2, -⟩ := List.cons.inj g2
  cases g1
  cases g2
  have ei : ev ρ ((0 : Int), ([(4, 1)] : List (Nat × Int))) = ((ρ 4)) := by show 0 + (1 * ρ 4 + 0) = _; omega
  have ew : ev ρ ((0 : Int), ([(5, 1)] : List (Nat × Int))) = ((ρ 5)) := by show 0 + (1 * ρ 5 + 0) = _; omega
  rw [show (st M (ctj r_815) (ev ρ ((0 : Int), ([(4, 1)] : List (Nat × Int)))).toNat (ev ρ ((0 : Int), ([(5, 1)] : List (Nat × Int))))) = (st M 104 ((ρ 4)).toNat ((ρ 5))) from by rw [ei, ew]; rfl]
  have H := cr_815 M (ρ 0) (ρ 1) (ρ 2) (ρ 3) (ρ 4) (ρ 5) (hB _ List.mem_cons_self) (hB _ (List.mem_cons_of_mem _ List.mem_cons_self)) (hB _ (List.mem_cons_of_mem _ (List.mem_cons_of_mem _ List.mem_cons_self))) (hB _ (List.mem_cons_of_mem _ (List.mem_cons_of_mem _ (List.mem_cons_of_mem _ List.mem_cons_self)))) (hB _ (List.mem_cons_of_mem _ (List.mem_cons_of_mem _ (List.mem_cons_of_mem _ (List.mem_cons_of_mem _ List.mem_cons_self))))) (hB _ (List.mem_cons_of_mem _ (List.mem_cons_of_mem _ (List.mem_cons_of_mem _ (List.mem_cons_of_mem _ (List.mem_cons_of_mem _ List.mem_cons_self)))))) (cvp 229 (x' := ((ρ 0))) (y' := (4096 * (ρ 1) + 64 * (ρ 2) + (ρ 3))) (by show 0 + (1 * ρ 0 + 0) = _; omega) (by show 0 + (4096 * ρ 1 + (64 * ρ 2 + (1 * ρ 3 + 0))) = _; omega) (hm _ List.mem_cons_self)) (by have h := hF _ List.mem_cons_self; have h : 0 ≤ 0 + ((-1) * ρ 3 + (1 * ρ 4 + 0)) := h; omega) hG
  obtain ⟨k0, -⟩ := H
  exact ⟨_, List.mem_cons_self, ρ, fun _ _ => rfl, (okM_c (pvp 229 (by show 0 + (1 * ρ 0 + 0) = _; omega) (by show 0 + (4096 * ρ 1 + (64 * ρ 2 + (1 * ρ 3 + 0))) = _; omega) k0) okM_n), okB_n, okF_n⟩
-- gbw105_r
theorem cr_816 (M : pM) (s0 s1 s2 s3 s4 s5 : Int) (b0 : (-2147483648) ≤ s0 ∧ s0 ≤ 2147483647) (b1 : 0 ≤ s1 ∧ s1 ≤ 7) (b2 : 0 ≤ s2 ∧ s2 ≤ 35) (b3 : 0 ≤ s3 ∧ s3 ≤ 36) (b4 : 0 ≤ s4 ∧ s4 ≤ 35) (b5 : (-2147483648) ≤ s5 ∧ s5 ≤ 2147483647) (m0 : HP 229 (s0) (4096 * s1 + 64 * s2 + s3) M) (f0 : 0 ≤ ((-1) * s3 + s4)) (hG : gI M) : (HP 229 (s0) (4096 * s1 + 64 * s2 + s3) (st M 105 (s4).toNat (s5)) ∧ True) := by
  obtain ⟨p, s, h1, h2, h3, h4, h5, h6, h7⟩ := Eq.mp hp_229 m0
  have l1 : trN (M 106) s ≤ s := trN_le
  have e0_ : p = s1.toNat := by omega
  subst e0_
  have e1_ : s = s2.toNat := by omega
  subst e1_
  have ec : trN (M 106) s2.toNat = s3.toNat := by omega
  refine ⟨Eq.mpr hp_229 ?_, trivial⟩
  rw [st_r (show 106 ≠ 105 by decide), st_r (show 97 ≠ 105 by decide), st_r (show 98 ≠ 105 by decide), st_r (show 101 ≠ 105 by decide), st_r (show 102 ≠ 105 by decide), st_r (show 99 ≠ 105 by decide), st_r (show 100 ≠ 105 by decide), st_r (show 103 ≠ 105 by decide), st_r (show 104 ≠ 105 by decide), st_r (show 61 ≠ 105 by decide)]
  refine ⟨s1.toNat, s2.toNat, by omega, by omega, by omega, h4, h5, h6, fun q hq hl => ?_⟩
  obtain ⟨d1, d2, d3⟩ := h7 q hq hl
  have hlt : trN (M 106) q < s3.toNat := by rw [← ec]; exact trN_lt hq hl
  rw [cw0, if_neg (by omega)]
  exact ⟨d1, d2, d3⟩
theorem rul_816 : Rul r_816 := by
  refine ⟨fun h => (by cases h), fun gi gv hg ρ M hm hB hF hG => ?_⟩
  obtain ⟨g1, g2⟩ := List.cons.inj (show ([aI ((0 : Int), ([(4, 1)] : List (Nat × Int))), aI ((0 : Int), ([(5, 1)] : List (Nat × Int)))] : List av) = [.inl gi, .inl gv] from hg)
  obtain ⟨g2, -⟩ := List.cons.inj g2
  cases g1
  cases g2
  have ei : ev ρ ((0 : Int), ([(4, 1)] : List (Nat × Int))) = ((ρ 4)) := by show 0 + (1 * ρ 4 + 0) = _; omega
  have ew : ev ρ ((0 : Int), ([(5, 1)] : List (Nat × Int))) = ((ρ 5)) := by show 0 + (1 * ρ 5 + 0) = _; omega
  rw [show (st M (ctj r_816) (ev ρ ((0 : Int), ([(4, 1)] : List (Nat × Int)))).toNat (ev ρ ((0 : Int), ([(5, 1)] : List (Nat × Int))))) = (st M 105 ((ρ 4)).toNat ((ρ 5))) from by rw [ei, ew]; rfl]
  have H := cr_816 M (ρ 0) (ρ 1) (ρ 2) (ρ 3) (ρ 4) (ρ 5) (hB _ List.mem_cons_self) (hB _ (List.mem_cons_of_mem _ List.mem_cons_self)) (hB _ (List.mem_cons_of_mem _ (List.mem_cons_of_mem _ List.mem_cons_self))) (hB _ (List.mem_cons_of_mem _ (List.mem_cons_of_mem _ (List.mem_cons_of_mem _ List.mem_cons_self)))) (hB _ (List.mem_cons_of_mem _ (List.mem_cons_of_mem _ (List.mem_cons_of_mem _ (List.mem_cons_of_mem _ List.mem_cons_self))))) (hB _ (List.mem_cons_of_mem _ (List.mem_cons_of_mem _ (List.mem_cons_of_mem _ (List.mem_cons_of_mem _ (List.mem_cons_of_mem _ List.mem_cons_self)))))) (cvp 229 (x' := ((ρ 0))) (y' := (4096 * (ρ 1) + 64 * (ρ 2) + (ρ 3))) (by show 0 + (1 * ρ 0 + 0) = _; omega) (by show 0 + (4096 * ρ 1 + (64 * ρ 2 + (1 * ρ 3 + 0))) = _; omega) (hm _ List.mem_cons_self)) (by have h := hF _ List.mem_cons_self; have h : 0 ≤ 0 + ((-1) * ρ 3 + (1 * ρ 4 + 0)) := h; omega) hG
  obtain ⟨k0, -⟩ := H
  exact ⟨_, List.mem_cons_self, ρ, fun _ _ => rfl, (okM_c (pvp 229 (by show 0 + (1 * ρ 0 + 0) = _; omega) (by show 0 + (4096 * ρ 1 + (64 * ρ 2 + (1 * ρ 3 + 0))) = _; omega) k0) okM_n), okB_n, okF_n⟩
-- gbn_r
theorem cr_817 (M : pM) (s0 s1 s2 s3 s4 s5 s6 s7 s8 s9 : Int) (b0 : (-2147483648) ≤ s0 ∧ s0 ≤ 2147483647) (b1 : 0 ≤ s1 ∧ s1 ≤ 7) (b2 : 0 ≤ s2 ∧ s2 ≤ 35) (b3 : 0 ≤ s3 ∧ s3 ≤ 35) (b4 : 0 ≤ s4 ∧ s4 ≤ 199) (b5 : (-2147483648) ≤ s5 ∧ s5 ≤ 2147483647) (b6 : (-2147483648) ≤ s6 ∧ s6 ≤ 2147483647) (b7 : (-2147483648) ≤ s7 ∧ s7 ≤ 2147483647) (b8 : (-2147483648) ≤ s8 ∧ s8 ≤ 2147483647) (b9 : (-2147483648) ≤ s9 ∧ s9 ≤ 2147483647) (m0 : HP 229 (s0) (4096 * s1 + 64 * s2 + s3) M) (m1 : (0 ≤ (s2) ∧ M 106 (s2).toNat = (s4))) (m2 : (0 ≤ (s3) ∧ M 103 (s3).toNat = (s5))) (m3 : (0 ≤ (s3) ∧ M 104 (s3).toNat = (s6))) (m4 : (0 ≤ (s4) ∧ M 99 (s4).toNat = (s7))) (m5 : (0 ≤ (s3) ∧ M 105 (s3).toNat = (s8))) (m6 : (0 ≤ (s4) ∧ M 100 (s4).toNat = (s9))) (f0 : 0 ≤ (s2 + (-1) * s5)) (f1 : 0 ≤ ((-1) * s2 + s5)) (f2 : 0 ≤ ((-1) * s6 + s7)) (f3 : 0 ≤ (s6 + (-1) * s7)) (f4 : 0 ≤ ((-1) * s8 + s9)) (f5 : 0 ≤ (s8 + (-1) * s9)) (hG : gI M) : (HP 229 (s0) (4096 * s1 + 64 * s2 + s3 + 65) M ∧ True) := by
  obtain ⟨p, s, h1, h2, h3, h4, h5, h6, h7⟩ := Eq.mp hp_229 m0
  have l1 : trN (M 106) s ≤ s := trN_le
  have e0_ : p = s1.toNat := by omega
  subst e0_
  have e1_ : s = s2.toNat := by omega
  subst e1_
  have ec : trN (M 106) s2.toNat = s3.toNat := by omega
  have ev : M 106 s2.toNat = s4 := m1.2
  have en : trN (M 106) (s2.toNat + 1) = trN (M 106) s2.toNat + 1 := if_neg (by omega)
  have w2 := m2.2
  have w3 := m3.2
  have w4 := m4.2
  have w5 := m5.2
  have w6 := m6.2
  refine ⟨Eq.mpr hp_229 ⟨s1.toNat, s2.toNat + 1, by omega, by omega, by rw [en]; omega, h4, h5, h6, fun q hq hl => ?_⟩, trivial⟩
  by_cases e : q = s2.toNat
  · rw [e, ec, ev]
    exact ⟨by omega, by omega, by omega⟩
  · exact h7 q (by omega) hl
theorem rul_817 : Rul r_817 := by
  refine ⟨fun _ ρ M hm hB hF hG => ?_, fun gi gv hg => (by cases hg)⟩
  have H := cr_817 M (ρ 0) (ρ 1) (ρ 2) (ρ 3) (ρ 4) (ρ 5) (ρ 6) (ρ 7) (ρ 8) (ρ 9) (hB _ List.mem_cons_self) (hB _ (List.mem_cons_of_mem _ List.mem_cons_self)) (hB _ (List.mem_cons_of_mem _ (List.mem_cons_of_mem _ List.mem_cons_self))) (hB _ (List.mem_cons_of_mem _ (List.mem_cons_of_mem _ (List.mem_cons_of_mem _ List.mem_cons_self)))) (hB _ (List.mem_cons_of_mem _ (List.mem_cons_of_mem _ (List.mem_cons_of_mem _ (List.mem_cons_of_mem _ List.mem_cons_self))))) (hB _ (List.mem_cons_of_mem _ (List.mem_cons_of_mem _ (List.mem_cons_of_mem _ (List.mem_cons_of_mem _ (List.mem_cons_of_mem _ List.mem_cons_self)))))) (hB _ (List.mem_cons_of_mem _ (List.mem_cons_of_mem _ (List.mem_cons_of_mem _ (List.mem_cons_of_mem _ (List.mem_cons_of_mem _ (List.mem_cons_of_mem _ List.mem_cons_self))))))) (hB _ (List.mem_cons_of_mem _ (List.mem_cons_of_mem _ (List.mem_cons_of_mem _ (List.mem_cons_of_mem _ (List.mem_cons_of_mem _ (List.mem_cons_of_mem _ (List.mem_cons_of_mem _ List.mem_cons_self)))))))) (hB _ (List.mem_cons_of_mem _ (List.mem_cons_of_mem _ (List.mem_cons_of_mem _ (List.mem_cons_of_mem _ (List.mem_cons_of_mem _ (List.mem_cons_of_mem _ (List.mem_cons_of_mem _ (List.mem_cons_of_mem _ List.mem_cons_self))))))))) (hB _ (List.mem_cons_of_mem _ (List.mem_cons_of_mem _ (List.mem_cons_of_mem _ (List.mem_cons_of_mem _ (List.mem_cons_of_mem _ (List.mem_cons_of_mem _ (List.mem_cons_of_mem _ (List.mem_cons_of_mem _ (List.mem_cons_of_mem _ List.mem_cons_self)))))))))) (cvp 229 (x' := ((ρ 0))) (y' := (4096 * (ρ 1) + 64 * (ρ 2) + (ρ 3))) (by show 0 + (1 * ρ 0 + 0) = _; omega) (by show 0 + (4096 * ρ 1 + (64 * ρ 2 + (1 * ρ 3 + 0))) = _; omega) (hm _ List.mem_cons_self)) (cvm (c := 106) (by decide) (x' := ((ρ 2))) (y' := ((ρ 4))) (by show 0 + (1 * ρ 2 + 0) = _; omega) (by show 0 + (1 * ρ 4 + 0) = _; omega) (hm _ (List.mem_cons_of_mem _ List.mem_cons_self))) (cvm (c := 103) (by decide) (x' := ((ρ 3))) (y' := ((ρ 5))) (by show 0 + (1 * ρ 3 + 0) = _; omega) (by show 0 + (1 * ρ 5 + 0) = _; omega) (hm _ (List.mem_cons_of_mem _ (List.mem_cons_of_mem _ List.mem_cons_self)))) (cvm (c := 104) (by decide) (x' := ((ρ 3))) (y' := ((ρ 6))) (by show 0 + (1 * ρ 3 + 0) = _; omega) (by show 0 + (1 * ρ 6 + 0) = _; omega) (hm _ (List.mem_cons_of_mem _ (List.mem_cons_of_mem _ (List.mem_cons_of_mem _ List.mem_cons_self))))) (cvm (c := 99) (by decide) (x' := ((ρ 4))) (y' := ((ρ 7))) (by show 0 + (1 * ρ 4 + 0) = _; omega) (by show 0 + (1 * ρ 7 + 0) = _; omega) (hm _ (List.mem_cons_of_mem _ (List.mem_cons_of_mem _ (List.mem_cons_of_mem _ (List.mem_cons_of_mem _ List.mem_cons_self)))))) (cvm (c := 105) (by decide) (x' := ((ρ 3))) (y' := ((ρ 8))) (by show 0 + (1 * ρ 3 + 0) = _; omega) (by show 0 + (1 * ρ 8 + 0) = _; omega) (hm _ (List.mem_cons_of_mem _ (List.mem_cons_of_mem _ (List.mem_cons_of_mem _ (List.mem_cons_of_mem _ (List.mem_cons_of_mem _ List.mem_cons_self))))))) (cvm (c := 100) (by decide) (x' := ((ρ 4))) (y' := ((ρ 9))) (by show 0 + (1 * ρ 4 + 0) = _; omega) (by show 0 + (1 * ρ 9 + 0) = _; omega) (hm _ (List.mem_cons_of_mem _ (List.mem_cons_of_mem _ (List.mem_cons_of_mem _ (List.mem_cons_of_mem _ (List.mem_cons_of_mem _ (List.mem_cons_of_mem _ List.mem_cons_self)))))))) (by have h := hF _ List.mem_cons_self; have h : 0 ≤ 0 + (1 * ρ 2 + ((-1) * ρ 5 + 0)) := h; omega) (by have h := hF _ (List.mem_cons_of_mem _ List.mem_cons_self); have h : 0 ≤ 0 + ((-1) * ρ 2 + (1 * ρ 5 + 0)) := h; omega) (by have h := hF _ (List.mem_cons_of_mem _ (List.mem_cons_of_mem _ List.mem_cons_self)); have h : 0 ≤ 0 + ((-1) * ρ 6 + (1 * ρ 7 + 0)) := h; omega) (by have h := hF _ (List.mem_cons_of_mem _ (List.mem_cons_of_mem _ (List.mem_cons_of_mem _ List.mem_cons_self))); have h : 0 ≤ 0 + (1 * ρ 6 + ((-1) * ρ 7 + 0)) := h; omega) (by have h := hF _ (List.mem_cons_of_mem _ (List.mem_cons_of_mem _ (List.mem_cons_of_mem _ (List.mem_cons_of_mem _ List.mem_cons_self)))); have h : 0 ≤ 0 + ((-1) * ρ 8 + (1 * ρ 9 + 0)) := h; omega) (by have h := hF _ (List.mem_cons_of_mem _ (List.mem_cons_of_mem _ (List.mem_cons_of_mem _ (List.mem_cons_of_mem _ (List.mem_cons_of_mem _ List.mem_cons_self))))); have h : 0 ≤ 0 + (1 * ρ 8 + ((-1) * ρ 9 + 0)) := h; omega) hG
  obtain ⟨k0, -⟩ := H
  exact ⟨_, List.mem_cons_self, ρ, fun _ _ => rfl, (okM_c (pvp 229 (by show 0 + (1 * ρ 0 + 0) = _; omega) (by show 65 + (4096 * ρ 1 + (64 * ρ 2 + (1 * ρ 3 + 0))) = _; omega) k0) okM_n), okB_n, okF_n⟩
-- rp0_r
theorem cr_818 (M : pM) (s0 s1 : Int) (b0 : 0 ≤ s0 ∧ s0 ≤ 36) (b1 : 0 ≤ s1 ∧ s1 ≤ 4) (hG : gI M) : (HP 231 (0 : Int) (64 * s0 + 9 * s1) M ∧ True) := by
  exact ⟨Eq.mpr hp_231 ⟨s0.toNat, s1.toNat, s1.toNat, by omega, Nat.le_refl _, by omega, Or.inr rfl, by omega, fun j h1 h2 => by omega⟩, trivial⟩
theorem rul_818 : Rul r_818 := by
  refine ⟨fun _ ρ M hm hB hF hG => ?_, fun gi gv hg => (by cases hg)⟩
  have H := cr_818 M (ρ 0) (ρ 1) (hB _ List.mem_cons_self) (hB _ (List.mem_cons_of_mem _ List.mem_cons_self)) hG
  obtain ⟨k0, -⟩ := H
  exact ⟨_, List.mem_cons_self, ρ, fun _ _ => rfl, (okM_c (pvp 231 (by show 0 + 0 = _; omega) (by show 0 + (64 * ρ 0 + (9 * ρ 1 + 0)) = _; omega) k0) okM_n), okB_n, okF_n⟩
-- rpn_r
theorem cr_819 (M : pM) (s0 s1 s2 s3 s4 s5 s6 : Int) (b0 : 0 ≤ s0 ∧ s0 ≤ 35) (b1 : 0 ≤ s1 ∧ s1 ≤ 4) (b2 : 0 ≤ s2 ∧ s2 ≤ 3) (b3 : 0 ≤ s3 ∧ s3 ≤ 63) (b4 : 0 ≤ s4 ∧ s4 ≤ 63) (b5 : (-2147483648) ≤ s5 ∧ s5 ≤ 2147483647) (b6 : 0 ≤ s6 ∧ s6 ≤ 7) (m0 : HP 231 (0 : Int) (64 * s0 + 8 * s1 + s2) M) (m1 : (0 ≤ (s0) ∧ M 104 (s0).toNat = (s3))) (m2 : (0 ≤ (s2) ∧ M 87 (s2).toNat = (s4))) (m3 : (0 ≤ (67 : Int) ∧ M 61 (67 : Int).toNat = (s5))) (m4 : HP 223 (64 * s3 + s4) (s6) M) (f0 : 0 ≤ (s5 + (-1) * s6)) (hG : gI M) : (HP 231 (0 : Int) (64 * s0 + 8 * s1 + s2 + 1) M ∧ True) := by
  have hz : zoA (M 104) (M 87) (M 61 67) s0.toNat s2.toNat := by
    obtain ⟨x1, x2, y1, y2, y3, y4⟩ := Eq.mp hp_223 m4
    show ((apF (M 104 s0.toNat).toNat (M 87 s2.toNat).toNat : Int) ≤ M 61 67)
    rw [m1.2, m2.2, show s3.toNat = x1 by omega, show s4.toNat = x2 by omega, show M 61 67 = s5 from m3.2]
    omega
  obtain ⟨n, b, a, h1, h2, h3, h4, h5, h6⟩ := Eq.mp hp_231 m0
  have e0_ : n = s0.toNat := by omega
  subst e0_
  have e1_ : b = s1.toNat := by omega
  subst e1_
  have e2_ : a = s2.toNat := by omega
  subst e2_
  exact ⟨Eq.mpr hp_231 ⟨s0.toNat, s1.toNat, s2.toNat + 1, by omega, by omega, by omega, Or.inl (by omega), by omega, fun j j1 j2 => if e : j = s2.toNat then (by rw [e]; exact hz) else h6 j j1 (by omega)⟩, trivial⟩
theorem rul_819 : Rul r_819 := by
  refine ⟨fun _ ρ M hm hB hF hG => ?_, fun gi gv hg => (by cases hg)⟩
  have H := cr_819 M (ρ 0) (ρ 1) (ρ 2) (ρ 3) (ρ 4) (ρ 5) (ρ 6) (hB _ List.mem_cons_self) (hB _ (List.mem_cons_of_mem _ List.mem_cons_self)) (hB _ (List.mem_cons_of_mem _ (List.mem_cons_of_mem _ List.mem_cons_self))) (hB _ (List.mem_cons_of_mem _ (List.mem_cons_of_mem _ (List.mem_cons_of_mem _ List.mem_cons_self)))) (hB _ (List.mem_cons_of_mem _ (List.mem_cons_of_mem _ (List.mem_cons_of_mem _ (List.mem_cons_of_mem _ List.mem_cons_self))))) (hB _ (List.mem_cons_of_mem _ (List.mem_cons_of_mem _ (List.mem_cons_of_mem _ (List.mem_cons_of_mem _ (List.mem_cons_of_mem _ List.mem_cons_self)))))) (hB _ (List.mem_cons_of_mem _ (List.mem_cons_of_mem _ (List.mem_cons_of_mem _ (List.mem_cons_of_mem _ (List.mem_cons_of_mem _ (List.mem_cons_of_mem _ List.mem_cons_self))))))) (cvp 231 (x' := (0 : Int)) (y' := (64 * (ρ 0) + 8 * (ρ 1) + (ρ 2))) (by show 0 + 0 = _; omega) (by show 0 + (64 * ρ 0 + (8 * ρ 1 + (1 * ρ 2 + 0))) = _; omega) (hm _ List.mem_cons_self)) (cvm (c := 104) (by decide) (x' := ((ρ 0))) (y' := ((ρ 3))) (by show 0 + (1 * ρ 0 + 0) = _; omega) (by show 0 + (1 * ρ 3 + 0) = _; omega) (hm _ (List.mem_cons_of_mem _ List.mem_cons_self))) (cvm (c := 87) (by decide) (x' := ((ρ 2))) (y' := ((ρ 4))) (by show 0 + (1 * ρ 2 + 0) = _; omega) (by show 0 + (1 * ρ 4 + 0) = _; omega) (hm _ (List.mem_cons_of_mem _ (List.mem_cons_of_mem _ List.mem_cons_self)))) (cvm (c := 61) (by decide) (x' := (67 : Int)) (y' := ((ρ 5))) (by show 67 + 0 = _; omega) (by show 0 + (1 * ρ 5 + 0) = _; omega) (hm _ (List.mem_cons_of_mem _ (List.mem_cons_of_mem _ (List.mem_cons_of_mem _ List.mem_cons_self))))) (cvp 223 (x' := (64 * (ρ 3) + (ρ 4))) (y' := ((ρ 6))) (by show 0 + (64 * ρ 3 + (1 * ρ 4 + 0)) = _; omega) (by show 0 + (1 * ρ 6 + 0) = _; omega) (hm _ (List.mem_cons_of_mem _ (List.mem_cons_of_mem _ (List.mem_cons_of_mem _ (List.mem_cons_of_mem _ List.mem_cons_self)))))) (by have h := hF _ List.mem_cons_self; have h : 0 ≤ 0 + (1 * ρ 5 + ((-1) * ρ 6 + 0)) := h; omega) hG
  obtain ⟨k0, -⟩ := H
  exact ⟨_, List.mem_cons_self, ρ, fun _ _ => rfl, (okM_c (pvp 231 (by show 0 + 0 = _; omega) (by show 1 + (64 * ρ 0 + (8 * ρ 1 + (1 * ρ 2 + 0))) = _; omega) k0) okM_n), okB_n, okF_n⟩
-- rtn_r
theorem cr_820 (M : pM) (s0 s1 s2 s3 s4 s5 s6 s7 : Int) (b0 : 0 ≤ s0 ∧ s0 ≤ 35) (b1 : 0 ≤ s1 ∧ s1 ≤ 4) (b2 : 0 ≤ s2 ∧ s2 ≤ 3) (b3 : 0 ≤ s3 ∧ s3 ≤ 63) (b4 : 0 ≤ s4 ∧ s4 ≤ 63) (b5 : (-2147483648) ≤ s5 ∧ s5 ≤ 2147483647) (b6 : 0 ≤ s6 ∧ s6 ≤ 7) (b7 : 0 ≤ s7 ∧ s7 ≤ 3) (m0 : HP 231 (0 : Int) (64 * s0 + 8 * s1 + s2) M) (m1 : (0 ≤ (s0) ∧ M 104 (s0).toNat = (s3))) (m2 : (0 ≤ (s2) ∧ M 87 (s2).toNat = (s4))) (m3 : (0 ≤ (67 : Int) ∧ M 61 (67 : Int).toNat = (s5))) (m4 : HP 223 (64 * s3 + s4) (s6) M) (m5 : (0 ≤ (40 : Int) ∧ M 61 (40 : Int).toNat = (s7))) (f0 : 0 ≤ ((-1) * s5 + s6 - 1)) (f1 : 0 ≤ ((-1) * s2 + s7)) (hG : gI M) : (HP 233 (0 : Int) (64 * s0 + 8 * s1 + s2) M ∧ True) := by
  have hz : ¬ zoA (M 104) (M 87) (M 61 67) s0.toNat s2.toNat := by
    obtain ⟨x1, x2, y1, y2, y3, y4⟩ := Eq.mp hp_223 m4
    show ¬ ((apF (M 104 s0.toNat).toNat (M 87 s2.toNat).toNat : Int) ≤ M 61 67)
    rw [m1.2, m2.2, show s3.toNat = x1 by omega, show s4.toNat = x2 by omega, show M 61 67 = s5 from m3.2]
    omega
  obtain ⟨n, b, a, h1, h2, h3, h4, h5, h6⟩ := Eq.mp hp_231 m0
  have e0_ : n = s0.toNat := by omega
  subst e0_
  have e1_ : b = s1.toNat := by omega
  subst e1_
  have e2_ : a = s2.toNat := by omega
  subst e2_
  have eq_ : M 61 40 = s7 := m5.2
  exact ⟨Eq.mpr hp_233 ⟨s0.toNat, s1.toNat, s2.toNat, by omega, h2, by omega, by omega, by omega, h2, by omega, h6, fun _ => hz⟩, trivial⟩
theorem rul_820 : Rul r_820 := by
  refine ⟨fun _ ρ M hm hB hF hG => ?_, fun gi gv hg => (by cases hg)⟩
  have H := cr_820 M (ρ 0) (ρ 1) (ρ 2) (ρ 3) (ρ 4) (ρ 5) (ρ 6) (ρ 7) (hB _ List.mem_cons_self) (hB _ (List.mem_cons_of_mem _ List.mem_cons_self)) (hB _ (List.mem_cons_of_mem _ (List.mem_cons_of_mem _ List.mem_cons_self))) (hB _ (List.mem_cons_of_mem _ (List.mem_cons_of_mem _ (List.mem_cons_of_mem _ List.mem_cons_self)))) (hB _ (List.mem_cons_of_mem _ (List.mem_cons_of_mem _ (List.mem_cons_of_mem _ (List.mem_cons_of_mem _ List.mem_cons_self))))) (hB _ (List.mem_cons_of_mem _ (List.mem_cons_of_mem _ (List.mem_cons_of_mem _ (List.mem_cons_of_mem _ (List.mem_cons_of_mem _ List.mem_cons_self)))))) (hB _ (List.mem_cons_of_mem _ (List.mem_cons_of_mem _ (List.mem_cons_of_mem _ (List.mem_cons_of_mem _ (List.mem_cons_of_mem _ (List.mem_cons_of_mem _ List.mem_cons_self))))))) (hB _ (List.mem_cons_of_mem _ (List.mem_cons_of_mem _ (List.mem_cons_of_mem _ (List.mem_cons_of_mem _ (List.mem_cons_of_mem _ (List.mem_cons_of_mem _ (List.mem_cons_of_mem _ List.mem_cons_self)))))))) (cvp 231 (x' := (0 : Int)) (y' := (64 * (ρ 0) + 8 * (ρ 1) + (ρ 2))) (by show 0 + 0 = _; omega) (by show 0 + (64 * ρ 0 + (8 * ρ 1 + (1 * ρ 2 + 0))) = _; omega) (hm _ List.mem_cons_self)) (cvm (c := 104) (by decide) (x' := ((ρ 0))) (y' := ((ρ 3))) (by show 0 + (1 * ρ 0 + 0) = _; omega) (by show 0 + (1 * ρ 3 + 0) = _; omega) (hm _ (List.mem_cons_of_mem _ List.mem_cons_self))) (cvm (c := 87) (by decide) (x' := ((ρ 2))) (y' := ((ρ 4))) (by show 0 + (1 * ρ 2 + 0) = _; omega) (by show 0 + (1 * ρ 4 + 0) = _; omega) (hm _ (List.mem_cons_of_mem _ (List.mem_cons_of_mem _ List.mem_cons_self)))) (cvm (c := 61) (by decide) (x' := (67 : Int)) (y' := ((ρ 5))) (by show 67 + 0 = _; omega) (by show 0 + (1 * ρ 5 + 0) = _; omega) (hm _ (List.mem_cons_of_mem _ (List.mem_cons_of_mem _ (List.mem_cons_of_mem _ List.mem_cons_self))))) (cvp 223 (x' := (64 * (ρ 3) + (ρ 4))) (y' := ((ρ 6))) (by show 0 + (64 * ρ 3 + (1 * ρ 4 + 0)) = _; omega) (by show 0 + (1 * ρ 6 + 0) = _; omega) (hm _ (List.mem_cons_of_mem _ (List.mem_cons_of_mem _ (List.mem_cons_of_mem _ (List.mem_cons_of_mem _ List.mem_cons_self)))))) (cvm (c := 61) (by decide) (x' := (40 : Int)) (y' := ((ρ 7))) (by show 40 + 0 = _; omega) (by show 0 + (1 * ρ 7 + 0) = _; omega) (hm _ (List.mem_cons_of_mem _ (List.mem_cons_of_mem _ (List.mem_cons_of_mem _ (List.mem_cons_of_mem _ (List.mem_cons_of_mem _ List.mem_cons_self))))))) (by have h := hF _ List.mem_cons_self; have h : 0 ≤ (-1) + ((-1) * ρ 5 + (1 * ρ 6 + 0)) := h; omega) (by have h := hF _ (List.mem_cons_of_mem _ List.mem_cons_self); have h : 0 ≤ 0 + ((-1) * ρ 2 + (1 * ρ 7 + 0)) := h; omega) hG
  obtain ⟨k0, -⟩ := H
  exact ⟨_, List.mem_cons_self, ρ, fun _ _ => rfl, (okM_c (pvp 233 (by show 0 + 0 = _; omega) (by show 0 + (64 * ρ 0 + (8 * ρ 1 + (1 * ρ 2 + 0))) = _; omega) k0) okM_n), okB_n, okF_n⟩
-- rte_r
theorem cr_821 (M : pM) (s0 s1 s2 s3 : Int) (b0 : 0 ≤ s0 ∧ s0 ≤ 35) (b1 : 0 ≤ s1 ∧ s1 ≤ 4) (b2 : 0 ≤ s2 ∧ s2 ≤ 4) (b3 : 0 ≤ s3 ∧ s3 ≤ 3) (m0 : HP 231 (0 : Int) (64 * s0 + 8 * s1 + s2) M) (m1 : (0 ≤ (40 : Int) ∧ M 61 (40 : Int).toNat = (s3))) (f0 : 0 ≤ ((-1) * s2 + s3 + 1)) (f1 : 0 ≤ (s2 + (-1) * s3 - 1)) (hG : gI M) : (HP 233 (0 : Int) (64 * s0 + 8 * s1 + s2) M ∧ True) := by
  obtain ⟨n, b, a, h1, h2, h3, h4, h5, h6⟩ := Eq.mp hp_231 m0
  have e0_ : n = s0.toNat := by omega
  subst e0_
  have e1_ : b = s1.toNat := by omega
  subst e1_
  have e2_ : a = s2.toNat := by omega
  subst e2_
  have eq_ : M 61 40 = s3 := m1.2
  exact ⟨Eq.mpr hp_233 ⟨s0.toNat, s1.toNat, s2.toNat, by omega, h2, by omega, by omega, by omega, h2, by omega, h6, fun hh => by omega⟩, trivial⟩
theorem rul_821 : Rul r_821 := by
  refine ⟨fun _ ρ M hm hB hF hG => ?_, fun gi gv hg => (by cases hg)⟩
  have H := cr_821 M (ρ 0) (ρ 1) (ρ 2) (ρ 3) (hB _ List.mem_cons_self) (hB _ (List.mem_cons_of_mem _ List.mem_cons_self)) (hB _ (List.mem_cons_of_mem _ (List.mem_cons_of_mem _ List.mem_cons_self))) (hB _ (List.mem_cons_of_mem _ (List.mem_cons_of_mem _ (List.mem_cons_of_mem _ List.mem_cons_self)))) (cvp 231 (x' := (0 : Int)) (y' := (64 * (ρ 0) + 8 * (ρ 1) + (ρ 2))) (by show 0 + 0 = _; omega) (by show 0 + (64 * ρ 0 + (8 * ρ 1 + (1 * ρ 2 + 0))) = _; omega) (hm _ List.mem_cons_self)) (cvm (c := 61) (by decide) (x' := (40 : Int)) (y' := ((ρ 3))) (by show 40 + 0 = _; omega) (by show 0 + (1 * ρ 3 + 0) = _; omega) (hm _ (List.mem_cons_of_mem _ List.mem_cons_self))) (by have h := hF _ List.mem_cons_self; have h : 0 ≤ 1 + ((-1) * ρ 2 + (1 * ρ 3 + 0)) := h; omega) (by have h := hF _ (List.mem_cons_of_mem _ List.mem_cons_self); have h : 0 ≤ (-1) + (1 * ρ 2 + ((-1) * ρ 3 + 0)) := h; omega) hG
  obtain ⟨k0, -⟩ := H
  exact ⟨_, List.mem_cons_self, ρ, fun _ _ => rfl, (okM_c (pvp 233 (by show 0 + 0 = _; omega) (by show 0 + (64 * ρ 0 + (8 * ρ 1 + (1 * ρ 2 + 0))) = _; omega) k0) okM_n), okB_n, okF_n⟩
-- lr0_r
theorem cr_822 (M : pM) (s0 : Int) (b0 : 0 ≤ s0 ∧ s0 ≤ 3) (m0 : (0 ≤ (40 : Int) ∧ M 61 (40 : Int).toNat = (s0))) (hG : gI M) : (HP 237 (0 : Int) (0 : Int) M ∧ True) := by
  have eq_ : M 61 40 = s0 := m0.2
  exact ⟨Eq.mpr hp_237 ⟨0, 0, by omega, by omega, by omega, by omega, rfl⟩, trivial⟩
theorem rul_822 : Rul r_822 := by
  refine ⟨fun _ ρ M hm hB hF hG => ?_, fun gi gv hg => (by cases hg)⟩
  have H := cr_822 M (ρ 0) (hB _ List.mem_cons_self) (cvm (c := 61) (by decide) (x' := (40 : Int)) (y' := ((ρ 0))) (by show 40 + 0 = _; omega) (by show 0 + (1 * ρ 0 + 0) = _; omega) (hm _ List.mem_cons_self)) hG
  obtain ⟨k0, -⟩ := H
  exact ⟨_, List.mem_cons_self, ρ, fun _ _ => rfl, (okM_c (pvp 237 (by show 0 + 0 = _; omega) (by show 0 + 0 = _; omega) k0) okM_n), okB_n, okF_n⟩
-- lrn_r
theorem cr_823 (M : pM) (s0 s1 s2 : Int) (b0 : 0 ≤ s0 ∧ s0 ≤ 35) (b1 : 0 ≤ s1 ∧ s1 ≤ 4) (b2 : 0 ≤ s2 ∧ s2 ≤ 4) (m0 : HP 237 (0 : Int) (8 * s0 + s1) M) (m1 : HP 233 (0 : Int) (64 * s0 + 8 * s1 + s2) M) (hG : gI M) : (HP 237 (0 : Int) (8 * s0 + s2 + 8) M ∧ True) := by
  obtain ⟨i, r, h1, h2, h3, h4, h5⟩ := Eq.mp hp_237 m0
  obtain ⟨n, b, a, k1, k2, k3, k4, k5, k6⟩ := Eq.mp hp_233 m1
  have e0_ : i = s0.toNat := by omega
  subst e0_
  have e1_ : r = s1.toNat := by omega
  subst e1_
  have e2_ : n = s0.toNat := by omega
  subst e2_
  have e3_ : b = s1.toNat := by omega
  subst e3_
  have e4_ : a = s2.toNat := by omega
  subst e4_
  exact ⟨Eq.mpr hp_237 ⟨s0.toNat + 1, s2.toNat, by omega, by omega, h3, by omega, ⟨s1.toNat, h5, k6⟩⟩, trivial⟩
theorem rul_823 : Rul r_823 := by
  refine ⟨fun _ ρ M hm hB hF hG => ?_, fun gi gv hg => (by cases hg)⟩
  have H := cr_823 M (ρ 0) (ρ 1) (ρ 2) (hB _ List.mem_cons_self) (hB _ (List.mem_cons_of_mem _ List.mem_cons_self)) (hB _ (List.mem_cons_of_mem _ (List.mem_cons_of_mem _ List.mem_cons_self))) (cvp 237 (x' := (0 : Int)) (y' := (8 * (ρ 0) + (ρ 1))) (by show 0 + 0 = _; omega) (by show 0 + (8 * ρ 0 + (1 * ρ 1 + 0)) = _; omega) (hm _ List.mem_cons_self)) (cvp 233 (x' := (0 : Int)) (y' := (64 * (ρ 0) + 8 * (ρ 1) + (ρ 2))) (by show 0 + 0 = _; omega) (by show 0 + (64 * ρ 0 + (8 * ρ 1 + (1 * ρ 2 + 0))) = _; omega) (hm _ (List.mem_cons_of_mem _ List.mem_cons_self))) hG
  obtain ⟨k0, -⟩ := H
  exact ⟨_, List.mem_cons_self, ρ, fun _ _ => rfl, (okM_c (pvp 237 (by show 0 + 0 = _; omega) (by show 8 + (8 * ρ 0 + (1 * ρ 2 + 0)) = _; omega) k0) okM_n), okB_n, okF_n⟩
-- lrE_r
theorem cr_824 (M : pM) (s0 s1 s2 s3 s4 : Int) (b0 : 0 ≤ s0 ∧ s0 ≤ 35) (b1 : 0 ≤ s1 ∧ s1 ≤ 4) (b2 : 0 ≤ s2 ∧ s2 ≤ 4) (b3 : 0 ≤ s3 ∧ s3 ≤ 36) (b4 : 0 ≤ s4 ∧ s4 ≤ 3) (m0 : HP 237 (0 : Int) (8 * s0 + s1) M) (m1 : HP 231 (0 : Int) (64 * s0 + 8 * s1 + s2) M) (m2 : (0 ≤ (40 : Int) ∧ M 61 (40 : Int).toNat = (s4))) (f0 : 0 ≤ ((-1) * s2 + s4 + 1)) (f1 : 0 ≤ (s2 + (-1) * s4 - 1)) (f2 : 0 ≤ ((-1) * s0 + s3 - 1)) (hG : gI M) : (HP 237 (0 : Int) (s2 + 8 * s3) M ∧ True) := by
  obtain ⟨i, r, h1, h2, h3, h4, h5⟩ := Eq.mp hp_237 m0
  obtain ⟨n, b, a, k1, k2, k3, k4, k5, k6⟩ := Eq.mp hp_231 m1
  have e0_ : i = s0.toNat := by omega
  subst e0_
  have e1_ : r = s1.toNat := by omega
  subst e1_
  have e2_ : n = s0.toNat := by omega
  subst e2_
  have e3_ : b = s1.toNat := by omega
  subst e3_
  have e4_ : a = s2.toNat := by omega
  subst e4_
  have eq_ : M 61 40 = s4 := m2.2
  have hq : ((M 61 40 + 1)).toNat = s2.toNat := by omega
  rw [hq] at h5
  have h8 : lrR (zoA (M 104) (M 87) (M 61 67)) s2.toNat (s0.toNat + 1) s2.toNat := ⟨s1.toNat, h5, k2, Nat.le_refl _, k6, fun hh => absurd hh (Nat.lt_irrefl _)⟩
  have h9 := lrR_q (k := s3.toNat - (s0.toNat + 1)) h8
  rw [show s0.toNat + 1 + (s3.toNat - (s0.toNat + 1)) = s3.toNat by omega] at h9
  exact ⟨Eq.mpr hp_237 ⟨s3.toNat, s2.toNat, by omega, by omega, by omega, by omega, by rw [hq]; exact h9⟩, trivial⟩
theorem rul_824 : Rul r_824 := by
  refine ⟨fun _ ρ M hm hB hF hG => ?_, fun gi gv hg => (by cases hg)⟩
  have H := cr_824 M (ρ 0) (ρ 1) (ρ 2) (ρ 3) (ρ 4) (hB _ List.mem_cons_self) (hB _ (List.mem_cons_of_mem _ List.mem_cons_self)) (hB _ (List.mem_cons_of_mem _ (List.mem_cons_of_mem _ List.mem_cons_self))) (hB _ (List.mem_cons_of_mem _ (List.mem_cons_of_mem _ (List.mem_cons_of_mem _ List.mem_cons_self)))) (hB _ (List.mem_cons_of_mem _ (List.mem_cons_of_mem _ (List.mem_cons_of_mem _ (List.mem_cons_of_mem _ List.mem_cons_self))))) (cvp 237 (x' := (0 : Int)) (y' := (8 * (ρ 0) + (ρ 1))) (by show 0 + 0 = _; omega) (by show 0 + (8 * ρ 0 + (1 * ρ 1 + 0)) = _; omega) (hm _ List.mem_cons_self)) (cvp 231 (x' := (0 : Int)) (y' := (64 * (ρ 0) + 8 * (ρ 1) + (ρ 2))) (by show 0 + 0 = _; omega) (by show 0 + (64 * ρ 0 + (8 * ρ 1 + (1 * ρ 2 + 0))) = _; omega) (hm _ (List.mem_cons_of_mem _ List.mem_cons_self))) (cvm (c := 61) (by decide) (x' := (40 : Int)) (y' := ((ρ 4))) (by show 40 + 0 = _; omega) (by show 0 + (1 * ρ 4 + 0) = _; omega) (hm _ (List.mem_cons_of_mem _ (List.mem_cons_of_mem _ List.mem_cons_self)))) (by have h := hF _ List.mem_cons_self; have h : 0 ≤ 1 + ((-1) * ρ 2 + (1 * ρ 4 + 0)) := h; omega) (by have h := hF _ (List.mem_cons_of_mem _ List.mem_cons_self); have h : 0 ≤ (-1) + (1 * ρ 2 + ((-1) * ρ 4 + 0)) := h; omega) (by have h := hF _ (List.mem_cons_of_mem _ (List.mem_cons_of_mem _ List.mem_cons_self)); have h : 0 ≤ (-1) + ((-1) * ρ 0 + (1 * ρ 3 + 0)) := h; omega) hG
  obtain ⟨k0, -⟩ := H
  exact ⟨_, List.mem_cons_self, ρ, fun _ _ => rfl, (okM_c (pvp 237 (by show 0 + 0 = _; omega) (by show 0 + (1 * ρ 2 + (8 * ρ 3 + 0)) = _; omega) k0) okM_n), okB_n, okF_n⟩
-- cb000_r
theorem cr_825 (M : pM) (s0 s1 s2 s3 s4 s5 s6 s7 s8 s9 : Int) (b0 : 0 ≤ s0 ∧ s0 ≤ 34) (b1 : 0 ≤ s1 ∧ s1 ≤ 3) (b2 : 0 ≤ s2 ∧ s2 ≤ 63) (b3 : 0 ≤ s3 ∧ s3 ≤ 63) (b4 : 0 ≤ s4 ∧ s4 ≤ 63) (b5 : 0 ≤ s5 ∧ s5 ≤ 3) (b6 : 0 ≤ s6 ∧ s6 ≤ 7) (b7 : 0 ≤ s7 ∧ s7 ≤ 7) (b8 : 0 ≤ s8 ∧ s8 ≤ 35) (b9 : 0 ≤ s9 ∧ s9 ≤ 35) (m0 : (0 ≤ (s0) ∧ M 104 (s0).toNat = (s2))) (m1 : (0 ≤ (s0 + 1) ∧ M 104 (s0 + 1).toNat = (s3))) (m2 : (0 ≤ (s1) ∧ M 87 (s1).toNat = (s4))) (m3 : (0 ≤ (67 : Int) ∧ M 61 (67 : Int).toNat = (s5))) (m4 : (0 ≤ (s0) ∧ M 103 (s0).toNat = (s8))) (m5 : (0 ≤ (s0 + 1) ∧ M 103 (s0 + 1).toNat = (s9))) (m6 : HP 223 (64 * s2 + s4) (s6) M) (m7 : HP 223 (64 * s3 + s4) (s7) M) (f0 : 0 ≤ (s5 + (-1) * s6)) (f1 : 0 ≤ (s5 + (-1) * s7)) (f2 : 0 ≤ (s8 + (-1) * s9 - 1)) (hG : gI M) : (HP 235 (0 : Int) (16 * s0 + 2 * s1) M ∧ True) := by
  obtain ⟨x1, x2, y1, y2, y3, y4⟩ := Eq.mp hp_223 m6
  obtain ⟨w1, w2, v1, v2, v3, v4⟩ := Eq.mp hp_223 m7
  have e1 := m1.2
  rw [show (s0 + 1).toNat = s0.toNat + 1 by omega] at e1
  have e5 := m5.2
  rw [show (s0 + 1).toNat = s0.toNat + 1 by omega] at e5
  have e4 := m4.2
  have ez : M 61 67 = s5 := m3.2
  have t1 := tzF_e (ce := M 104) (pt := M 87) (z := M 61 67) (n := s0.toNat) (a := s1.toNat) (v := s6) (by rw [m0.2, m2.2, show s2.toNat = x1 by omega, show s4.toNat = x2 by omega]; exact y4)
  have t2 := tzF_e (ce := M 104) (pt := M 87) (z := M 61 67) (n := s0.toNat + 1) (a := s1.toNat) (v := s7) (by rw [e1, m2.2, show s3.toNat = w1 by omega, show s4.toNat = w2 by omega]; exact v4)
  have hz : ¬ tzR (M 104) (M 103) (M 87) (M 61 67) s0.toNat s1.toNat := by
    unfold tzR
    rw [t1, t2, e4, e5]
    (repeat' split) <;> omega
  exact ⟨Eq.mpr hp_235 ⟨s0.toNat, s1.toNat, 0, by omega, by omega, by omega, by omega, ⟨fun h => absurd h (by decide), fun h => absurd h hz⟩⟩, trivial⟩
theorem rul_825 : Rul r_825 := by
  refine ⟨fun _ ρ M hm hB hF hG => ?_, fun gi gv hg => (by cases hg)⟩
  have H := cr_825 M (ρ 0) (ρ 1) (ρ 2) (ρ 3) (ρ 4) (ρ 5) (ρ 6) (ρ 7) (ρ 8) (ρ 9) (hB _ List.mem_cons_self) (hB _ (List.mem_cons_of_mem _ List.mem_cons_self)) (hB _ (List.mem_cons_of_mem _ (List.mem_cons_of_mem _ List.mem_cons_self))) (hB _ (List.mem_cons_of_mem _ (List.mem_cons_of_mem _ (List.mem_cons_of_mem _ List.mem_cons_self)))) (hB _ (List.mem_cons_of_mem _ (List.mem_cons_of_mem _ (List.mem_cons_of_mem _ (List.mem_cons_of_mem _ List.mem_cons_self))))) (hB _ (List.mem_cons_of_mem _ (List.mem_cons_of_mem _ (List.mem_cons_of_mem _ (List.mem_cons_of_mem _ (List.mem_cons_of_mem _ List.mem_cons_self)))))) (hB _ (List.mem_cons_of_mem _ (List.mem_cons_of_mem _ (List.mem_cons_of_mem _ (List.mem_cons_of_mem _ (List.mem_cons_of_mem _ (List.mem_cons_of_mem _ List.mem_cons_self))))))) (hB _ (List.mem_cons_of_mem _ (List.mem_cons_of_mem _ (List.mem_cons_of_mem _ (List.mem_cons_of_mem _ (List.mem_cons_of_mem _ (List.mem_cons_of_mem _ (List.mem_cons_of_mem _ List.mem_cons_self)))))))) (hB _ (List.mem_cons_of_mem _ (List.mem_cons_of_mem _ (List.mem_cons_of_mem _ (List.mem_cons_of_mem _ (List.mem_cons_of_mem _ (List.mem_cons_of_mem _ (List.mem_cons_of_mem _ (List.mem_cons_of_mem _ List.mem_cons_self))))))))) (hB _ (List.mem_cons_of_mem _ (List.mem_cons_of_mem _ (List.mem_cons_of_mem _ (List.mem_cons_of_mem _ (List.mem_cons_of_mem _ (List.mem_cons_of_mem _ (List.mem_cons_of_mem _ (List.mem_cons_of_mem _ (List.mem_cons_of_mem _ List.mem_cons_self)))))))))) (cvm (c := 104) (by decide) (x' := ((ρ 0))) (y' := ((ρ 2))) (by show 0 + (1 * ρ 0 + 0) = _; omega) (by show 0 + (1 * ρ 2 + 0) = _; omega) (hm _ List.mem_cons_self)) (cvm (c := 104) (by decide) (x' := ((ρ 0) + 1)) (y' := ((ρ 3))) (by show 1 + (1 * ρ 0 + 0) = _; omega) (by show 0 + (1 * ρ 3 + 0) = _; omega) (hm _ (List.mem_cons_of_mem _ List.mem_cons_self))) (cvm (c := 87) (by decide) (x' := ((ρ 1))) (y' := ((ρ 4))) (by show 0 + (1 * ρ 1 + 0) = _; omega) (by show 0 + (1 * ρ 4 + 0) = _; omega) (hm _ (List.mem_cons_of_mem _ (List.mem_cons_of_mem _ List.mem_cons_self)))) (cvm (c := 61) (by decide) (x' := (67 : Int)) (y' := ((ρ 5))) (by show 67 + 0 = _; omega) (by show 0 + (1 * ρ 5 + 0) = _; omega) (hm _ (List.mem_cons_of_mem _ (List.mem_cons_of_mem _ (List.mem_cons_of_mem _ List.mem_cons_self))))) (cvm (c := 103) (by decide) (x' := ((ρ 0))) (y' := ((ρ 8))) (by show 0 + (1 * ρ 0 + 0) = _; omega) (by show 0 + (1 * ρ 8 + 0) = _; omega) (hm _ (List.mem_cons_of_mem _ (List.mem_cons_of_mem _ (List.mem_cons_of_mem _ (List.mem_cons_of_mem _ List.mem_cons_self)))))) (cvm (c := 103) (by decide) (x' := ((ρ 0) + 1)) (y' := ((ρ 9))) (by show 1 + (1 * ρ 0 + 0) = _; omega) (by show 0 + (1 * ρ 9 + 0) = _; omega) (hm _ (List.mem_cons_of_mem _ (List.mem_cons_of_mem _ (List.mem_cons_of_mem _ (List.mem_cons_of_mem _ (List.mem_cons_of_mem _ List.mem_cons_self))))))) (cvp 223 (x' := (64 * (ρ 2) + (ρ 4))) (y' := ((ρ 6))) (by show 0 + (64 * ρ 2 + (1 * ρ 4 + 0)) = _; omega) (by show 0 + (1 * ρ 6 + 0) = _; omega) (hm _ (List.mem_cons_of_mem _ (List.mem_cons_of_mem _ (List.mem_cons_of_mem _ (List.mem_cons_of_mem _ (List.mem_cons_of_mem _ (List.mem_cons_of_mem _ List.mem_cons_self)))))))) (cvp 223 (x' := (64 * (ρ 3) + (ρ 4))) (y' := ((ρ 7))) (by show 0 + (64 * ρ 3 + (1 * ρ 4 + 0)) = _; omega) (by show 0 + (1 * ρ 7 + 0) = _; omega) (hm _ (List.mem_cons_of_mem _ (List.mem_cons_of_mem _ (List.mem_cons_of_mem _ (List.mem_cons_of_mem _ (List.mem_cons_of_mem _ (List.mem_cons_of_mem _ (List.mem_cons_of_mem _ List.mem_cons_self))))))))) (by have h := hF _ List.mem_cons_self; have h : 0 ≤ 0 + (1 * ρ 5 + ((-1) * ρ 6 + 0)) := h; omega) (by have h := hF _ (List.mem_cons_of_mem _ List.mem_cons_self); have h : 0 ≤ 0 + (1 * ρ 5 + ((-1) * ρ 7 + 0)) := h; omega) (by have h := hF _ (List.mem_cons_of_mem _ (List.mem_cons_of_mem _ List.mem_cons_self)); have h : 0 ≤ (-1) + (1 * ρ 8 + ((-1) * ρ 9 + 0)) := h; omega) hG
  obtain ⟨k0, -⟩ := H
  exact ⟨_, List.mem_cons_self, ρ, fun _ _ => rfl, (okM_c (pvp 235 (by show 0 + 0 = _; omega) (by show 0 + (16 * ρ 0 + (2 * ρ 1 + 0)) = _; omega) k0) okM_n), okB_n, okF_n⟩
-- cb001_r
theorem cr_826 (M : pM) (s0 s1 s2 s3 s4 s5 s6 s7 s8 s9 : Int) (b0 : 0 ≤ s0 ∧ s0 ≤ 34) (b1 : 0 ≤ s1 ∧ s1 ≤ 3) (b2 : 0 ≤ s2 ∧ s2 ≤ 63) (b3 : 0 ≤ s3 ∧ s3 ≤ 63) (b4 : 0 ≤ s4 ∧ s4 ≤ 63) (b5 : 0 ≤ s5 ∧ s5 ≤ 3) (b6 : 0 ≤ s6 ∧ s6 ≤ 7) (b7 : 0 ≤ s7 ∧ s7 ≤ 7) (b8 : 0 ≤ s8 ∧ s8 ≤ 35) (b9 : 0 ≤ s9 ∧ s9 ≤ 35) (m0 : (0 ≤ (s0) ∧ M 104 (s0).toNat = (s2))) (m1 : (0 ≤ (s0 + 1) ∧ M 104 (s0 + 1).toNat = (s3))) (m2 : (0 ≤ (s1) ∧ M 87 (s1).toNat = (s4))) (m3 : (0 ≤ (67 : Int) ∧ M 61 (67 : Int).toNat = (s5))) (m4 : (0 ≤ (s0) ∧ M 103 (s0).toNat = (s8))) (m5 : (0 ≤ (s0 + 1) ∧ M 103 (s0 + 1).toNat = (s9))) (m6 : HP 223 (64 * s2 + s4) (s6) M) (m7 : HP 223 (64 * s3 + s4) (s7) M) (f0 : 0 ≤ (s5 + (-1) * s6)) (f1 : 0 ≤ (s5 + (-1) * s7)) (f2 : 0 ≤ ((-1) * s8 + s9)) (hG : gI M) : (HP 235 (0 : Int) (16 * s0 + 2 * s1 + 1) M ∧ True) := by
  obtain ⟨x1, x2, y1, y2, y3, y4⟩ := Eq.mp hp_223 m6
  obtain ⟨w1, w2, v1, v2, v3, v4⟩ := Eq.mp hp_223 m7
  have e1 := m1.2
  rw [show (s0 + 1).toNat = s0.toNat + 1 by omega] at e1
  have e5 := m5.2
  rw [show (s0 + 1).toNat = s0.toNat + 1 by omega] at e5
  have e4 := m4.2
  have ez : M 61 67 = s5 := m3.2
  have t1 := tzF_e (ce := M 104) (pt := M 87) (z := M 61 67) (n := s0.toNat) (a := s1.toNat) (v := s6) (by rw [m0.2, m2.2, show s2.toNat = x1 by omega, show s4.toNat = x2 by omega]; exact y4)
  have t2 := tzF_e (ce := M 104) (pt := M 87) (z := M 61 67) (n := s0.toNat + 1) (a := s1.toNat) (v := s7) (by rw [e1, m2.2, show s3.toNat = w1 by omega, show s4.toNat = w2 by omega]; exact v4)
  have hz : tzR (M 104) (M 103) (M 87) (M 61 67) s0.toNat s1.toNat := by
    unfold tzR
    rw [t1, t2, e4, e5]
    (repeat' split) <;> omega
  exact ⟨Eq.mpr hp_235 ⟨s0.toNat, s1.toNat, 1, by omega, by omega, by omega, by omega, ⟨fun _ => hz, fun _ => rfl⟩⟩, trivial⟩
theorem rul_826 : Rul r_826 := by
  refine ⟨fun _ ρ M hm hB hF hG => ?_, fun gi gv hg => (by cases hg)⟩
  have H := cr_826 M (ρ 0) (ρ 1) (ρ 2) (ρ 3) (ρ 4) (ρ 5) (ρ 6) (ρ 7) (ρ 8) (ρ 9) (hB _ List.mem_cons_self) (hB _ (List.mem_cons_of_mem _ List.mem_cons_self)) (hB _ (List.mem_cons_of_mem _ (List.mem_cons_of_mem _ List.mem_cons_self))) (hB _ (List.mem_cons_of_mem _ (List.mem_cons_of_mem _ (List.mem_cons_of_mem _ List.mem_cons_self)))) (hB _ (List.mem_cons_of_mem _ (List.mem_cons_of_mem _ (List.mem_cons_of_mem _ (List.mem_cons_of_mem _ List.mem_cons_self))))) (hB _ (List.mem_cons_of_mem _ (List.mem_cons_of_mem _ (List.mem_cons_of_mem _ (List.mem_cons_of_mem _ (List.mem_cons_of_mem _ List.mem_cons_self)))))) (hB _ (List.mem_cons_of_mem _ (List.mem_cons_of_mem _ (List.mem_cons_of_mem _ (List.mem_cons_of_mem _ (List.mem_cons_of_mem _ (List.mem_cons_of_mem _ List.mem_cons_self))))))) (hB _ (List.mem_cons_of_mem _ (List.mem_cons_of_mem _ (List.mem_cons_of_mem _ (List.mem_cons_of_mem _ (List.mem_cons_of_mem _ (List.mem_cons_of_mem _ (List.mem_cons_of_mem _ List.mem_cons_self)))))))) (hB _ (List.mem_cons_of_mem _ (List.mem_cons_of_mem _ (List.mem_cons_of_mem _ (List.mem_cons_of_mem _ (List.mem_cons_of_mem _ (List.mem_cons_of_mem _ (List.mem_cons_of_mem _ (List.mem_cons_of_mem _ List.mem_cons_self))))))))) (hB _ (List.mem_cons_of_mem _ (List.mem_cons_of_mem _ (List.mem_cons_of_mem _ (List.mem_cons_of_mem _ (List.mem_cons_of_mem _ (List.mem_cons_of_mem _ (List.mem_cons_of_mem _ (List.mem_cons_of_mem _ (List.mem_cons_of_mem _ List.mem_cons_self)))))))))) (cvm (c := 104) (by decide) (x' := ((ρ 0))) (y' := ((ρ 2))) (by show 0 + (1 * ρ 0 + 0) = _; omega) (by show 0 + (1 * ρ 2 + 0) = _; omega) (hm _ List.mem_cons_self)) (cvm (c := 104) (by decide) (x' := ((ρ 0) + 1)) (y' := ((ρ 3))) (by show 1 + (1 * ρ 0 + 0) = _; omega) (by show 0 + (1 * ρ 3 + 0) = _; omega) (hm _ (List.mem_cons_of_mem _ List.mem_cons_self))) (cvm (c := 87) (by decide) (x' := ((ρ 1))) (y' := ((ρ 4))) (by show 0 + (1 * ρ 1 + 0) = _; omega) (by show 0 + (1 * ρ 4 + 0) = _; omega) (hm _ (List.mem_cons_of_mem _ (List.mem_cons_of_mem _ List.mem_cons_self)))) (cvm (c := 61) (by decide) (x' := (67 : Int)) (y' := ((ρ 5))) (by show 67 + 0 = _; omega) (by show 0 + (1 * ρ 5 + 0) = _; omega) (hm _ (List.mem_cons_of_mem _ (List.mem_cons_of_mem _ (List.mem_cons_of_mem _ List.mem_cons_self))))) (cvm (c := 103) (by decide) (x' := ((ρ 0))) (y' := ((ρ 8))) (by show 0 + (1 * ρ 0 + 0) = _; omega) (by show 0 + (1 * ρ 8 + 0) = _; omega) (hm _ (List.mem_cons_of_mem _ (List.mem_cons_of_mem _ (List.mem_cons_of_mem _ (List.mem_cons_of_mem _ List.mem_cons_self)))))) (cvm (c := 103) (by decide) (x' := ((ρ 0) + 1)) (y' := ((ρ 9))) (by show 1 + (1 * ρ 0 + 0) = _; omega) (by show 0 + (1 * ρ 9 + 0) = _; omega) (hm _ (List.mem_cons_of_mem _ (List.mem_cons_of_mem _ (List.mem_cons_of_mem _ (List.mem_cons_of_mem _ (List.mem_cons_of_mem _ List.mem_cons_self))))))) (cvp 223 (x' := (64 * (ρ 2) + (ρ 4))) (y' := ((ρ 6))) (by show 0 + (64 * ρ 2 + (1 * ρ 4 + 0)) = _; omega) (by show 0 + (1 * ρ 6 + 0) = _; omega) (hm _ (List.mem_cons_of_mem _ (List.mem_cons_of_mem _ (List.mem_cons_of_mem _ (List.mem_cons_of_mem _ (List.mem_cons_of_mem _ (List.mem_cons_of_mem _ List.mem_cons_self)))))))) (cvp 223 (x' := (64 * (ρ 3) + (ρ 4))) (y' := ((ρ 7))) (by show 0 + (64 * ρ 3 + (1 * ρ 4 + 0)) = _; omega) (by show 0 + (1 * ρ 7 + 0) = _; omega) (hm _ (List.mem_cons_of_mem _ (List.mem_cons_of_mem _ (List.mem_cons_of_mem _ (List.mem_cons_of_mem _ (List.mem_cons_of_mem _ (List.mem_cons_of_mem _ (List.mem_cons_of_mem _ List.mem_cons_self))))))))) (by have h := hF _ List.mem_cons_self; have h : 0 ≤ 0 + (1 * ρ 5 + ((-1) * ρ 6 + 0)) := h; omega) (by have h := hF _ (List.mem_cons_of_mem _ List.mem_cons_self); have h : 0 ≤ 0 + (1 * ρ 5 + ((-1) * ρ 7 + 0)) := h; omega) (by have h := hF _ (List.mem_cons_of_mem _ (List.mem_cons_of_mem _ List.mem_cons_self)); have h : 0 ≤ 0 + ((-1) * ρ 8 + (1 * ρ 9 + 0)) := h; omega) hG
  obtain ⟨k0, -⟩ := H
  exact ⟨_, List.mem_cons_self, ρ, fun _ _ => rfl, (okM_c (pvp 235 (by show 0 + 0 = _; omega) (by show 1 + (16 * ρ 0 + (2 * ρ 1 + 0)) = _; omega) k0) okM_n), okB_n, okF_n⟩
-- cb010_r
theorem cr_827 (M : pM) (s0 s1 s2 s3 s4 s5 s6 s7 s8 s9 : Int) (b0 : 0 ≤ s0 ∧ s0 ≤ 34) (b1 : 0 ≤ s1 ∧ s1 ≤ 3) (b2 : 0 ≤ s2 ∧ s2 ≤ 63) (b3 : 0 ≤ s3 ∧ s3 ≤ 63) (b4 : 0 ≤ s4 ∧ s4 ≤ 63) (b5 : 0 ≤ s5 ∧ s5 ≤ 3) (b6 : 0 ≤ s6 ∧ s6 ≤ 7) (b7 : 0 ≤ s7 ∧ s7 ≤ 7) (b8 : 0 ≤ s8 ∧ s8 ≤ 35) (b9 : 0 ≤ s9 ∧ s9 ≤ 35) (m0 : (0 ≤ (s0) ∧ M 104 (s0).toNat = (s2))) (m1 : (0 ≤ (s0 + 1) ∧ M 104 (s0 + 1).toNat = (s3))) (m2 : (0 ≤ (s1) ∧ M 87 (s1).toNat = (s4))) (m3 : (0 ≤ (67 : Int) ∧ M 61 (67 : Int).toNat = (s5))) (m4 : (0 ≤ (s0) ∧ M 103 (s0).toNat = (s8))) (m5 : (0 ≤ (s0 + 1) ∧ M 103 (s0 + 1).toNat = (s9))) (m6 : HP 223 (64 * s2 + s4) (s6) M) (m7 : HP 223 (64 * s3 + s4) (s7) M) (f0 : 0 ≤ (s5 + (-1) * s6)) (f1 : 0 ≤ ((-1) * s5 + s7)) (f2 : 0 ≤ ((-1) * s5 + s7 + s8 + (-1) * s9 - 1)) (hG : gI M) : (HP 235 (0 : Int) (16 * s0 + 2 * s1) M ∧ True) := by
  obtain ⟨x1, x2, y1, y2, y3, y4⟩ := Eq.mp hp_223 m6
  obtain ⟨w1, w2, v1, v2, v3, v4⟩ := Eq.mp hp_223 m7
  have e1 := m1.2
  rw [show (s0 + 1).toNat = s0.toNat + 1 by omega] at e1
  have e5 := m5.2
  rw [show (s0 + 1).toNat = s0.toNat + 1 by omega] at e5
  have e4 := m4.2
  have ez : M 61 67 = s5 := m3.2
  have t1 := tzF_e (ce := M 104) (pt := M 87) (z := M 61 67) (n := s0.toNat) (a := s1.toNat) (v := s6) (by rw [m0.2, m2.2, show s2.toNat = x1 by omega, show s4.toNat = x2 by omega]; exact y4)
  have t2 := tzF_e (ce := M 104) (pt := M 87) (z := M 61 67) (n := s0.toNat + 1) (a := s1.toNat) (v := s7) (by rw [e1, m2.2, show s3.toNat = w1 by omega, show s4.toNat = w2 by omega]; exact v4)
  have hz : ¬ tzR (M 104) (M 103) (M 87) (M 61 67) s0.toNat s1.toNat := by
    unfold tzR
    rw [t1, t2, e4, e5]
    (repeat' split) <;> omega
  exact ⟨Eq.mpr hp_235 ⟨s0.toNat, s1.toNat, 0, by omega, by omega, by omega, by omega, ⟨fun h => absurd h (by decide), fun h => absurd h hz⟩⟩, trivial⟩
theorem rul_827 : Rul r_827 := by
  refine ⟨fun _ ρ M hm hB hF hG => ?_, fun gi gv hg => (by cases hg)⟩
  have H := cr_827 M (ρ 0) (ρ 1) (ρ 2) (ρ 3) (ρ 4) (ρ 5) (ρ 6) (ρ 7) (ρ 8) (ρ 9) (hB _ List.mem_cons_self) (hB _ (List.mem_cons_of_mem _ List.mem_cons_self)) (hB _ (List.mem_cons_of_mem _ (List.mem_cons_of_mem _ List.mem_cons_self))) (hB _ (List.mem_cons_of_mem _ (List.mem_cons_of_mem _ (List.mem_cons_of_mem _ List.mem_cons_self)))) (hB _ (List.mem_cons_of_mem _ (List.mem_cons_of_mem _ (List.mem_cons_of_mem _ (List.mem_cons_of_mem _ List.mem_cons_self))))) (hB _ (List.mem_cons_of_mem _ (List.mem_cons_of_mem _ (List.mem_cons_of_mem _ (List.mem_cons_of_mem _ (List.mem_cons_of_mem _ List.mem_cons_self)))))) (hB _ (List.mem_cons_of_mem _ (List.mem_cons_of_mem _ (List.mem_cons_of_mem _ (List.mem_cons_of_mem _ (List.mem_cons_of_mem _ (List.mem_cons_of_mem _ List.mem_cons_self))))))) (hB _ (List.mem_cons_of_mem _ (List.mem_cons_of_mem _ (List.mem_cons_of_mem _ (List.mem_cons_of_mem _ (List.mem_cons_of_mem _ (List.mem_cons_of_mem _ (List.mem_cons_of_mem _ List.mem_cons_self)))))))) (hB _ (List.mem_cons_of_mem _ (List.mem_cons_of_mem _ (List.mem_cons_of_mem _ (List.mem_cons_of_mem _ (List.mem_cons_of_mem _ (List.mem_cons_of_mem _ (List.mem_cons_of_mem _ (List.mem_cons_of_mem _ List.mem_cons_self))))))))) (hB _ (List.mem_cons_of_mem _ (List.mem_cons_of_mem _ (List.mem_cons_of_mem _ (List.mem_cons_of_mem _ (List.mem_cons_of_mem _ (List.mem_cons_of_mem _ (List.mem_cons_of_mem _ (List.mem_cons_of_mem _ (List.mem_cons_of_mem _ List.mem_cons_self)))))))))) (cvm (c := 104) (by decide) (x' := ((ρ 0))) (y' := ((ρ 2))) (by show 0 + (1 * ρ 0 + 0) = _; omega) (by show 0 + (1 * ρ 2 + 0) = _; omega) (hm _ List.mem_cons_self)) (cvm (c := 104) (by decide) (x' := ((ρ 0) + 1)) (y' := ((ρ 3))) (by show 1 + (1 * ρ 0 + 0) = _; omega) (by show 0 + (1 * ρ 3 + 0) = _; omega) (hm _ (List.mem_cons_of_mem _ List.mem_cons_self))) (cvm (c := 87) (by decide) (x' := ((ρ 1))) (y' := ((ρ 4))) (by show 0 + (1 * ρ 1 + 0) = _; omega) (by show 0 + (1 * ρ 4 + 0) = _; omega) (hm _ (List.mem_cons_of_mem _ (List.mem_cons_of_mem _ List.mem_cons_self)))) (cvm (c := 61) (by decide) (x' := (67 : Int)) (y' := ((ρ 5))) (by show 67 + 0 = _; omega) (by show 0 + (1 * ρ 5 + 0) = _; omega) (hm _ (List.mem_cons_of_mem _ (List.mem_cons_of_mem _ (List.mem_cons_of_mem _ List.mem_cons_self))))) (cvm (c := 103) (by decide) (x' := ((ρ 0))) (y' := ((ρ 8))) (by show 0 + (1 * ρ 0 + 0) = _; omega) (by show 0 + (1 * ρ 8 + 0) = _; omega) (hm _ (List.mem_cons_of_mem _ (List.mem_cons_of_mem _ (List.mem_cons_of_mem _ (List.mem_cons_of_mem _ List.mem_cons_self)))))) (cvm (c := 103) (by decide) (x' := ((ρ 0) + 1)) (y' := ((ρ 9))) (by show 1 + (1 * ρ 0 + 0) = _; omega) (by show 0 + (1 * ρ 9 + 0) = _; omega) (hm _ (List.mem_cons_of_mem _ (List.mem_cons_of_mem _ (List.mem_cons_of_mem _ (List.mem_cons_of_mem _ (List.mem_cons_of_mem _ List.mem_cons_self))))))) (cvp 223 (x' := (64 * (ρ 2) + (ρ 4))) (y' := ((ρ 6))) (by show 0 + (64 * ρ 2 + (1 * ρ 4 + 0)) = _; omega) (by show 0 + (1 * ρ 6 + 0) = _; omega) (hm _ (List.mem_cons_of_mem _ (List.mem_cons_of_mem _ (List.mem_cons_of_mem _ (List.mem_cons_of_mem _ (List.mem_cons_of_mem _ (List.mem_cons_of_mem _ List.mem_cons_self)))))))) (cvp 223 (x' := (64 * (ρ 3) + (ρ 4))) (y' := ((ρ 7))) (by show 0 + (64 * ρ 3 + (1 * ρ 4 + 0)) = _; omega) (by show 0 + (1 * ρ 7 + 0) = _; omega) (hm _ (List.mem_cons_of_mem _ (List.mem_cons_of_mem _ (List.mem_cons_of_mem _ (List.mem_cons_of_mem _ (List.mem_cons_of_mem _ (List.mem_cons_of_mem _ (List.mem_cons_of_mem _ List.mem_cons_self))))))))) (by have h := hF _ List.mem_cons_self; have h : 0 ≤ 0 + (1 * ρ 5 + ((-1) * ρ 6 + 0)) := h; omega) (by have h := hF _ (List.mem_cons_of_mem _ List.mem_cons_self); have h : 0 ≤ 0 + ((-1) * ρ 5 + (1 * ρ 7 + 0)) := h; omega) (by have h := hF _ (List.mem_cons_of_mem _ (List.mem_cons_of_mem _ List.mem_cons_self)); have h : 0 ≤ (-1) + ((-1) * ρ 5 + (1 * ρ 7 + (1 * ρ 8 + ((-1) * ρ 9 + 0)))) := h; omega) hG
  obtain ⟨k0, -⟩ := H
  exact ⟨_, List.mem_cons_self, ρ, fun _ _ => rfl, (okM_c (pvp 235 (by show 0 + 0 = _; omega) (by show 0 + (16 * ρ 0 + (2 * ρ 1 + 0)) = _; omega) k0) okM_n), okB_n, okF_n⟩
-- cb011_r
theorem cr_828 (M : pM) (s0 s1 s2 s3 s4 s5 s6 s7 s8 s9 : Int) (b0 : 0 ≤ s0 ∧ s0 ≤ 34) (b1 : 0 ≤ s1 ∧ s1 ≤ 3) (b2 : 0 ≤ s2 ∧ s2 ≤ 63) (b3 : 0 ≤ s3 ∧ s3 ≤ 63) (b4 : 0 ≤ s4 ∧ s4 ≤ 63) (b5 : 0 ≤ s5 ∧ s5 ≤ 3) (b6 : 0 ≤ s6 ∧ s6 ≤ 7) (b7 : 0 ≤ s7 ∧ s7 ≤ 7) (b8 : 0 ≤ s8 ∧ s8 ≤ 35) (b9 : 0 ≤ s9 ∧ s9 ≤ 35) (m0 : (0 ≤ (s0) ∧ M 104 (s0).toNat = (s2))) (m1 : (0 ≤ (s0 + 1) ∧ M 104 (s0 + 1).toNat = (s3))) (m2 : (0 ≤ (s1) ∧ M 87 (s1).toNat = (s4))) (m3 : (0 ≤ (67 : Int) ∧ M 61 (67 : Int).toNat = (s5))) (m4 : (0 ≤ (s0) ∧ M 103 (s0).toNat = (s8))) (m5 : (0 ≤ (s0 + 1) ∧ M 103 (s0 + 1).toNat = (s9))) (m6 : HP 223 (64 * s2 + s4) (s6) M) (m7 : HP 223 (64 * s3 + s4) (s7) M) (f0 : 0 ≤ (s5 + (-1) * s6)) (f1 : 0 ≤ ((-1) * s5 + s7)) (f2 : 0 ≤ (s5 + (-1) * s7 + (-1) * s8 + s9)) (hG : gI M) : (HP 235 (0 : Int) (16 * s0 + 2 * s1 + 1) M ∧ True) := by
  obtain ⟨x1, x2, y1, y2, y3, y4⟩ := Eq.mp hp_223 m6
  obtain ⟨w1, w2, v1, v2, v3, v4⟩ := Eq.mp hp_223 m7
  have e1 := m1.2
  rw [show (s0 + 1).toNat = s0.toNat + 1 by omega] at e1
  have e5 := m5.2
  rw [show (s0 + 1).toNat = s0.toNat + 1 by omega] at e5
  have e4 := m4.2
  have ez : M 61 67 = s5 := m3.2
  have t1 := tzF_e (ce := M 104) (pt := M 87) (z := M 61 67) (n := s0.toNat) (a := s1.toNat) (v := s6) (by rw [m0.2, m2.2, show s2.toNat = x1 by omega, show s4.toNat = x2 by omega]; exact y4)
  have t2 := tzF_e (ce := M 104) (pt := M 87) (z := M 61 67) (n := s0.toNat + 1) (a := s1.toNat) (v := s7) (by rw [e1, m2.2, show s3.toNat = w1 by omega, show s4.toNat = w2 by omega]; exact v4)
  have hz : tzR (M 104) (M 103) (M 87) (M 61 67) s0.toNat s1.toNat := by
    unfold tzR
    rw [t1, t2, e4, e5]
    (repeat' split) <;> omega
  exact ⟨Eq.mpr hp_235 ⟨s0.toNat, s1.toNat, 1, by omega, by omega, by omega, by omega, ⟨fun _ => hz, fun _ => rfl⟩⟩, trivial⟩
theorem rul_828 : Rul r_828 := by
  refine ⟨fun _ ρ M hm hB hF hG => ?_, fun gi gv hg => (by cases hg)⟩
  have H := cr_828 M (ρ 0) (ρ 1) (ρ 2) (ρ 3) (ρ 4) (ρ 5) (ρ 6) (ρ 7) (ρ 8) (ρ 9) (hB _ List.mem_cons_self) (hB _ (List.mem_cons_of_mem _ List.mem_cons_self)) (hB _ (List.mem_cons_of_mem _ (List.mem_cons_of_mem _ List.mem_cons_self))) (hB _ (List.mem_cons_of_mem _ (List.mem_cons_of_mem _ (List.mem_cons_of_mem _ List.mem_cons_self)))) (hB _ (List.mem_cons_of_mem _ (List.mem_cons_of_mem _ (List.mem_cons_of_mem _ (List.mem_cons_of_mem _ List.mem_cons_self))))) (hB _ (List.mem_cons_of_mem _ (List.mem_cons_of_mem _ (List.mem_cons_of_mem _ (List.mem_cons_of_mem _ (List.mem_cons_of_mem _ List.mem_cons_self)))))) (hB _ (List.mem_cons_of_mem _ (List.mem_cons_of_mem _ (List.mem_cons_of_mem _ (List.mem_cons_of_mem _ (List.mem_cons_of_mem _ (List.mem_cons_of_mem _ List.mem_cons_self))))))) (hB _ (List.mem_cons_of_mem _ (List.mem_cons_of_mem _ (List.mem_cons_of_mem _ (List.mem_cons_of_mem _ (List.mem_cons_of_mem _ (List.mem_cons_of_mem _ (List.mem_cons_of_mem _ List.mem_cons_self)))))))) (hB _ (List.mem_cons_of_mem _ (List.mem_cons_of_mem _ (List.mem_cons_of_mem _ (List.mem_cons_of_mem _ (List.mem_cons_of_mem _ (List.mem_cons_of_mem _ (List.mem_cons_of_mem _ (List.mem_cons_of_mem _ List.mem_cons_self))))))))) (hB _ (List.mem_cons_of_mem _ (List.mem_cons_of_mem _ (List.mem_cons_of_mem _ (List.mem_cons_of_mem _ (List.mem_cons_of_mem _ (List.mem_cons_of_mem _ (List.mem_cons_of_mem _ (List.mem_cons_of_mem _ (List.mem_cons_of_mem _ List.mem_cons_self)))))))))) (cvm (c := 104) (by decide) (x' := ((ρ 0))) (y' := ((ρ 2))) (by show 0 + (1 * ρ 0 + 0) = _; omega) (by show 0 + (1 * ρ 2 + 0) = _; omega) (hm _ List.mem_cons_self)) (cvm (c := 104) (by decide) (x' := ((ρ 0) + 1)) (y' := ((ρ 3))) (by show 1 + (1 * ρ 0 + 0) = _; omega) (by show 0 + (1 * ρ 3 + 0) = _; omega) (hm _ (List.mem_cons_of_mem _ List.mem_cons_self))) (cvm (c := 87) (by decide) (x' := ((ρ 1))) (y' := ((ρ 4))) (by show 0 + (1 * ρ 1 + 0) = _; omega) (by show 0 + (1 * ρ 4 + 0) = _; omega) (hm _ (List.mem_cons_of_mem _ (List.mem_cons_of_mem _ List.mem_cons_self)))) (cvm (c := 61) (by decide) (x' := (67 : Int)) (y' := ((ρ 5))) (by show 67 + 0 = _; omega) (by show 0 + (1 * ρ 5 + 0) = _; omega) (hm _ (List.mem_cons_of_mem _ (List.mem_cons_of_mem _ (List.mem_cons_of_mem _ List.mem_cons_self))))) (cvm (c := 103) (by decide) (x' := ((ρ 0))) (y' := ((ρ 8))) (by show 0 + (1 * ρ 0 + 0) = _; omega) (by show 0 + (1 * ρ 8 + 0) = _; omega) (hm _ (List.mem_cons_of_mem _ (List.mem_cons_of_mem _ (List.mem_cons_of_mem _ (List.mem_cons_of_mem _ List.mem_cons_self)))))) (cvm (c := 103) (by decide) (x' := ((ρ 0) + 1)) (y' := ((ρ 9))) (by show 1 + (1 * ρ 0 + 0) = _; omega) (by show 0 + (1 * ρ 9 + 0) = _; omega) (hm _ (List.mem_cons_of_mem _ (List.mem_cons_of_mem _ (List.mem_cons_of_mem _ (List.mem_cons_of_mem _ (List.mem_cons_of_mem _ List.mem_cons_self))))))) (cvp 223 (x' := (64 * (ρ 2) + (ρ 4))) (y' := ((ρ 6))) (by show 0 + (64 * ρ 2 + (1 * ρ 4 + 0)) = _; omega) (by show 0 + (1 * ρ 6 + 0) = _; omega) (hm _ (List.mem_cons_of_mem _ (List.mem_cons_of_mem _ (List.mem_cons_of_mem _ (List.mem_cons_of_mem _ (List.mem_cons_of_mem _ (List.mem_cons_of_mem _ List.mem_cons_self)))))))) (cvp 223 (x' := (64 * (ρ 3) + (ρ 4))) (y' := ((ρ 7))) (by show 0 + (64 * ρ 3 + (1 * ρ 4 + 0)) = _; omega) (by show 0 + (1 * ρ 7 + 0) = _; omega) (hm _ (List.mem_cons_of_mem _ (List.mem_cons_of_mem _ (List.mem_cons_of_mem _ (List.mem_cons_of_mem _ (List.mem_cons_of_mem _ (List.mem_cons_of_mem _ (List.mem_cons_of_mem _ List.mem_cons_self))))))))) (by have h := hF _ List.mem_cons_self; have h : 0 ≤ 0 + (1 * ρ 5 + ((-1) * ρ 6 + 0)) := h; omega) (by have h := hF _ (List.mem_cons_of_mem _ List.mem_cons_self); have h : 0 ≤ 0 + ((-1) * ρ 5 + (1 * ρ 7 + 0)) := h; omega) (by have h := hF _ (List.mem_cons_of_mem _ (List.mem_cons_of_mem _ List.mem_cons_self)); have h : 0 ≤ 0 + (1 * ρ 5 + ((-1) * ρ 7 + ((-1) * ρ 8 + (1 * ρ 9 + 0)))) := h; omega) hG
  obtain ⟨k0, -⟩ := H
  exact ⟨_, List.mem_cons_self, ρ, fun _ _ => rfl, (okM_c (pvp 235 (by show 0 + 0 = _; omega) (by show 1 + (16 * ρ 0 + (2 * ρ 1 + 0)) = _; omega) k0) okM_n), okB_n, okF_n⟩
-- cb100_r
theorem cr_829 (M : pM) (s0 s1 s2 s3 s4 s5 s6 s7 s8 s9 : Int) (b0 : 0 ≤ s0 ∧ s0 ≤ 34) (b1 : 0 ≤ s1 ∧ s1 ≤ 3) (b2 : 0 ≤ s2 ∧ s2 ≤ 63) (b3 : 0 ≤ s3 ∧ s3 ≤ 63) (b4 : 0 ≤ s4 ∧ s4 ≤ 63) (b5 : 0 ≤ s5 ∧ s5 ≤ 3) (b6 : 0 ≤ s6 ∧ s6 ≤ 7) (b7 : 0 ≤ s7 ∧ s7 ≤ 7) (b8 : 0 ≤ s8 ∧ s8 ≤ 35) (b9 : 0 ≤ s9 ∧ s9 ≤ 35) (m0 : (0 ≤ (s0) ∧ M 104 (s0).toNat = (s2))) (m1 : (0 ≤ (s0 + 1) ∧ M 104 (s0 + 1).toNat = (s3))) (m2 : (0 ≤ (s1) ∧ M 87 (s1).toNat = (s4))) (m3 : (0 ≤ (67 : Int) ∧ M 61 (67 : Int).toNat = (s5))) (m4 : (0 ≤ (s0) ∧ M 103 (s0).toNat = (s8))) (m5 : (0 ≤ (s0 + 1) ∧ M 103 (s0 + 1).toNat = (s9))) (m6 : HP 223 (64 * s2 + s4) (s6) M) (m7 : HP 223 (64 * s3 + s4) (s7) M) (f0 : 0 ≤ ((-1) * s5 + s6)) (f1 : 0 ≤ (s5 + (-1) * s7)) (f2 : 0 ≤ ((-1) * s5 + s6 + s8 + (-1) * s9 - 1)) (hG : gI M) : (HP 235 (0 : Int) (16 * s0 + 2 * s1) M ∧ True) := by
  obtain ⟨x1, x2, y1, y2, y3, y4⟩ := Eq.mp hp_223 m6
  obtain ⟨w1, w2, v1, v2, v3, v4⟩ := Eq.mp hp_223 m7
  have e1 := m1.2
  rw [show (s0 + 1).toNat = s0.toNat + 1 by omega] at e1
  have e5 := m5.2
  rw [show (s0 + 1).toNat = s0.toNat + 1 by omega] at e5
  have e4 := m4.2
  have ez : M 61 67 = s5 := m3.2
  have t1 := tzF_e (ce := M 104) (pt := M 87) (z := M 61 67) (n := s0.toNat) (a := s1.toNat) (v := s6) (by rw [m0.2, m2.2, show s2.toNat = x1 by omega, show s4.toNat = x2 by omega]; exact y4)
  have t2 := tzF_e (ce := M 104) (pt := M 87) (z := M 61 67) (n := s0.toNat + 1) (a := s1.toNat) (v := s7) (by rw [e1, m2.2, show s3.toNat = w1 by omega, show s4.toNat = w2 by omega]; exact v4)
  have hz : ¬ tzR (M 104) (M 103) (M 87) (M 61 67) s0.toNat s1.toNat := by
    unfold tzR
    rw [t1, t2, e4, e5]
    (repeat' split) <;> omega
  exact ⟨Eq.mpr hp_235 ⟨s0.toNat, s1.toNat, 0, by omega, by omega, by omega, by omega, ⟨fun h => absurd h (by decide), fun h => absurd h hz⟩⟩, trivial⟩
theorem rul_829 : Rul r_829 := by
  refine ⟨fun _ ρ M hm hB hF hG => ?_, fun gi gv hg => (by cases hg)⟩
  have H := cr_829 M (ρ 0) (ρ 1) (ρ 2) (ρ 3) (ρ 4) (ρ 5) (ρ 6) (ρ 7) (ρ 8) (ρ 9) (hB _ List.mem_cons_self) (hB _ (List.mem_cons_of_mem _ List.mem_cons_self)) (hB _ (List.mem_cons_of_mem _ (List.mem_cons_of_mem _ List.mem_cons_self))) (hB _ (List.mem_cons_of_mem _ (List.mem_cons_of_mem _ (List.mem_cons_of_mem _ List.mem_cons_self)))) (hB _ (List.mem_cons_of_mem _ (List.mem_cons_of_mem _ (List.mem_cons_of_mem _ (List.mem_cons_of_mem _ List.mem_cons_self))))) (hB _ (List.mem_cons_of_mem _ (List.mem_cons_of_mem _ (List.mem_cons_of_mem _ (List.mem_cons_of_mem _ (List.mem_cons_of_mem _ List.mem_cons_self)))))) (hB _ (List.mem_cons_of_mem _ (List.mem_cons_of_mem _ (List.mem_cons_of_mem _ (List.mem_cons_of_mem _ (List.mem_cons_of_mem _ (List.mem_cons_of_mem _ List.mem_cons_self))))))) (hB _ (List.mem_cons_of_mem _ (List.mem_cons_of_mem _ (List.mem_cons_of_mem _ (List.mem_cons_of_mem _ (List.mem_cons_of_mem _ (List.mem_cons_of_mem _ (List.mem_cons_of_mem _ List.mem_cons_self)))))))) (hB _ (List.mem_cons_of_mem _ (List.mem_cons_of_mem _ (List.mem_cons_of_mem _ (List.mem_cons_of_mem _ (List.mem_cons_of_mem _ (List.mem_cons_of_mem _ (List.mem_cons_of_mem _ (List.mem_cons_of_mem _ List.mem_cons_self))))))))) (hB _ (List.mem_cons_of_mem _ (List.mem_cons_of_mem _ (List.mem_cons_of_mem _ (List.mem_cons_of_mem _ (List.mem_cons_of_mem _ (List.mem_cons_of_mem _ (List.mem_cons_of_mem _ (List.mem_cons_of_mem _ (List.mem_cons_of_mem _ List.mem_cons_self)))))))))) (cvm (c := 104) (by decide) (x' := ((ρ 0))) (y' := ((ρ 2))) (by show 0 + (1 * ρ 0 + 0) = _; omega) (by show 0 + (1 * ρ 2 + 0) = _; omega) (hm _ List.mem_cons_self)) (cvm (c := 104) (by decide) (x' := ((ρ 0) + 1)) (y' := ((ρ 3))) (by show 1 + (1 * ρ 0 + 0) = _; omega) (by show 0 + (1 * ρ 3 + 0) = _; omega) (hm _ (List.mem_cons_of_mem _ List.mem_cons_self))) (cvm (c := 87) (by decide) (x' := ((ρ 1))) (y' := ((ρ 4))) (by show 0 + (1 * ρ 1 + 0) = _; omega) (by show 0 + (1 * ρ 4 + 0) = _; omega) (hm _ (List.mem_cons_of_mem _ (List.mem_cons_of_mem _ List.mem_cons_self)))) (cvm (c := 61) (by decide) (x' := (67 : Int)) (y' := ((ρ 5))) (by show 67 + 0 = _; omega) (by show 0 + (1 * ρ 5 + 0) = _; omega) (hm _ (List.mem_cons_of_mem _ (List.mem_cons_of_mem _ (List.mem_cons_of_mem _ List.mem_cons_self))))) (cvm (c := 103) (by decide) (x' := ((ρ 0))) (y' := ((ρ 8))) (by show 0 + (1 * ρ 0 + 0) = _; omega) (by show 0 + (1 * ρ 8 + 0) = _; omega) (hm _ (List.mem_cons_of_mem _ (List.mem_cons_of_mem _ (List.mem_cons_of_mem _ (List.mem_cons_of_mem _ List.mem_cons_self)))))) (cvm (c := 103) (by decide) (x' := ((ρ 0) + 1)) (y' := ((ρ 9))) (by show 1 + (1 * ρ 0 + 0) = _; omega) (by show 0 + (1 * ρ 9 + 0) = _; omega) (hm _ (List.mem_cons_of_mem _ (List.mem_cons_of_mem _ (List.mem_cons_of_mem _ (List.mem_cons_of_mem _ (List.mem_cons_of_mem _ List.mem_cons_self))))))) (cvp 223 (x' := (64 * (ρ 2) + (ρ 4))) (y' := ((ρ 6))) (by show 0 + (64 * ρ 2 + (1 * ρ 4 + 0)) = _; omega) (by show 0 + (1 * ρ 6 + 0) = _; omega) (hm _ (List.mem_cons_of_mem _ (List.mem_cons_of_mem _ (List.mem_cons_of_mem _ (List.mem_cons_of_mem _ (List.mem_cons_of_mem _ (List.mem_cons_of_mem _ List.mem_cons_self)))))))) (cvp 223 (x' := (64 * (ρ 3) + (ρ 4))) (y' := ((ρ 7))) (by show 0 + (64 * ρ 3 + (1 * ρ 4 + 0)) = _; omega) (by show 0 + (1 * ρ 7 + 0) = _; omega) (hm _ (List.mem_cons_of_mem _ (List.mem_cons_of_mem _ (List.mem_cons_of_mem _ (List.mem_cons_of_mem _ (List.mem_cons_of_mem _ (List.mem_cons_of_mem _ (List.mem_cons_of_mem _ List.mem_cons_self))))))))) (by have h := hF _ List.mem_cons_self; have h : 0 ≤ 0 + ((-1) * ρ 5 + (1 * ρ 6 + 0)) := h; omega) (by have h := hF _ (List.mem_cons_of_mem _ List.mem_cons_self); have h : 0 ≤ 0 + (1 * ρ 5 + ((-1) * ρ 7 + 0)) := h; omega) (by have h := hF _ (List.mem_cons_of_mem _ (List.mem_cons_of_mem _ List.mem_cons_self)); have h : 0 ≤ (-1) + ((-1) * ρ 5 + (1 * ρ 6 + (1 * ρ 8 + ((-1) * ρ 9 + 0)))) := h; omega) hG
  obtain ⟨k0, -⟩ := H
  exact ⟨_, List.mem_cons_self, ρ, fun _ _ => rfl, (okM_c (pvp 235 (by show 0 + 0 = _; omega) (by show 0 + (16 * ρ 0 + (2 * ρ 1 + 0)) = _; omega) k0) okM_n), okB_n, okF_n⟩
-- cb101_r
theorem cr_830 (M : pM) (s0 s1 s2 s3 s4 s5 s6 s7 s8 s9 : Int) (b0 : 0 ≤ s0 ∧ s0 ≤ 34) (b1 : 0 ≤ s1 ∧ s1 ≤ 3) (b2 : 0 ≤ s2 ∧ s2 ≤ 63) (b3 : 0 ≤ s3 ∧ s3 ≤ 63) (b4 : 0 ≤ s4 ∧ s4 ≤ 63) (b5 : 0 ≤ s5 ∧ s5 ≤ 3) (b6 : 0 ≤ s6 ∧ s6 ≤ 7) (b7 : 0 ≤ s7 ∧ s7 ≤ 7) (b8 : 0 ≤ s8 ∧ s8 ≤ 35) (b9 : 0 ≤ s9 ∧ s9 ≤ 35) (m0 : (0 ≤ (s0) ∧ M 104 (s0).toNat = (s2))) (m1 : (0 ≤ (s0 + 1) ∧ M 104 (s0 + 1).toNat = (s3))) (m2 : (0 ≤ (s1) ∧ M 87 (s1).toNat = (s4))) (m3 : (0 ≤ (67 : Int) ∧ M 61 (67 : Int).toNat = (s5))) (m4 : (0 ≤ (s0) ∧ M 103 (s0).toNat = (s8))) (m5 : (0 ≤ (s0 + 1) ∧ M 103 (s0 + 1).toNat = (s9))) (m6 : HP 223 (64 * s2 + s4) (s6) M) (m7 : HP 223 (64 * s3 + s4) (s7) M) (f0 : 0 ≤ ((-1) * s5 + s6)) (f1 : 0 ≤ (s5 + (-1) * s7)) (f2 : 0 ≤ (s5 + (-1) * s6 + (-1) * s8 + s9)) (hG : gI M) : (HP 235 (0 : Int) (16 * s0 + 2 * s1 + 1) M ∧ True) := by
  obtain ⟨x1, x2, y1, y2, y3, y4⟩ := Eq.mp hp_223 m6
  obtain ⟨w1, w2, v1, v2, v3, v4⟩ := Eq.mp hp_223 m7
  have e1 := m1.2
  rw [show (s0 + 1).toNat = s0.toNat + 1 by omega] at e1
  have e5 := m5.2
  rw [show (s0 + 1).toNat = s0.toNat + 1 by omega] at e5
  have e4 := m4.2
  have ez : M 61 67 = s5 := m3.2
  have t1 := tzF_e (ce := M 104) (pt := M 87) (z := M 61 67) (n := s0.toNat) (a := s1.toNat) (v := s6) (by rw [m0.2, m2.2, show s2.toNat = x1 by omega, show s4.toNat = x2 by omega]; exact y4)
  have t2 := tzF_e (ce := M 104) (pt := M 87) (z := M 61 67) (n := s0.toNat + 1) (a := s1.toNat) (v := s7) (by rw [e1, m2.2, show s3.toNat = w1 by omega, show s4.toNat = w2 by omega]; exact v4)
  have hz : tzR (M 104) (M 103) (M 87) (M 61 67) s0.toNat s1.toNat := by
    unfold tzR
    rw [t1, t2, e4, e5]
    (repeat' split) <;> omega
  exact ⟨Eq.mpr hp_235 ⟨s0.toNat, s1.toNat, 1, by omega, by omega, by omega, by omega, ⟨fun _ => hz, fun _ => rfl⟩⟩, trivial⟩
theorem rul_830 : Rul r_830 := by
  refine ⟨fun _ ρ M hm hB hF hG => ?_, fun gi gv hg => (by cases hg)⟩
  have H := cr_830 M (ρ 0) (ρ 1) (ρ 2) (ρ 3) (ρ 4) (ρ 5) (ρ 6) (ρ 7) (ρ 8) (ρ 9) (hB _ List.mem_cons_self) (hB _ (List.mem_cons_of_mem _ List.mem_cons_self)) (hB _ (List.mem_cons_of_mem _ (List.mem_cons_of_mem _ List.mem_cons_self))) (hB _ (List.mem_cons_of_mem _ (List.mem_cons_of_mem _ (List.mem_cons_of_mem _ List.mem_cons_self)))) (hB _ (List.mem_cons_of_mem _ (List.mem_cons_of_mem _ (List.mem_cons_of_mem _ (List.mem_cons_of_mem _ List.mem_cons_self))))) (hB _ (List.mem_cons_of_mem _ (List.mem_cons_of_mem _ (List.mem_cons_of_mem _ (List.mem_cons_of_mem _ (List.mem_cons_of_mem _ List.mem_cons_self)))))) (hB _ (List.mem_cons_of_mem _ (List.mem_cons_of_mem _ (List.mem_cons_of_mem _ (List.mem_cons_of_mem _ (List.mem_cons_of_mem _ (List.mem_cons_of_mem _ List.mem_cons_self))))))) (hB _ (List.mem_cons_of_mem _ (List.mem_cons_of_mem _ (List.mem_cons_of_mem _ (List.mem_cons_of_mem _ (List.mem_cons_of_mem _ (List.mem_cons_of_mem _ (List.mem_cons_of_mem _ List.mem_cons_self)))))))) (hB _ (List.mem_cons_of_mem _ (List.mem_cons_of_mem _ (List.mem_cons_of_mem _ (List.mem_cons_of_mem _ (List.mem_cons_of_mem _ (List.mem_cons_of_mem _ (List.mem_cons_of_mem _ (List.mem_cons_of_mem _ List.mem_cons_self))))))))) (hB _ (List.mem_cons_of_mem _ (List.mem_cons_of_mem _ (List.mem_cons_of_mem _ (List.mem_cons_of_mem _ (List.mem_cons_of_mem _ (List.mem_cons_of_mem _ (List.mem_cons_of_mem _ (List.mem_cons_of_mem _ (List.mem_cons_of_mem _ List.mem_cons_self)))))))))) (cvm (c := 104) (by decide) (x' := ((ρ 0))) (y' := ((ρ 2))) (by show 0 + (1 * ρ 0 + 0) = _; omega) (by show 0 + (1 * ρ 2 + 0) = _; omega) (hm _ List.mem_cons_self)) (cvm (c := 104) (by decide) (x' := ((ρ 0) + 1)) (y' := ((ρ 3))) (by show 1 + (1 * ρ 0 + 0) = _; omega) (by show 0 + (1 * ρ 3 + 0) = _; omega) (hm _ (List.mem_cons_of_mem _ List.mem_cons_self))) (cvm (c := 87) (by decide) (x' := ((ρ 1))) (y' := ((ρ 4))) (by show 0 + (1 * ρ 1 + 0) = _; omega) (by show 0 + (1 * ρ 4 + 0) = _; omega) (hm _ (List.mem_cons_of_mem _ (List.mem_cons_of_mem _ List.mem_cons_self)))) (cvm (c := 61) (by decide) (x' := (67 : Int)) (y' := ((ρ 5))) (by show 67 + 0 = _; omega) (by show 0 + (1 * ρ 5 + 0) = _; omega) (hm _ (List.mem_cons_of_mem _ (List.mem_cons_of_mem _ (List.mem_cons_of_mem _ List.mem_cons_self))))) (cvm (c := 103) (by decide) (x' := ((ρ 0))) (y' := ((ρ 8))) (by show 0 + (1 * ρ 0 + 0) = _; omega) (by show 0 + (1 * ρ 8 + 0) = _; omega) (hm _ (List.mem_cons_of_mem _ (List.mem_cons_of_mem _ (List.mem_cons_of_mem _ (List.mem_cons_of_mem _ List.mem_cons_self)))))) (cvm (c := 103) (by decide) (x' := ((ρ 0) + 1)) (y' := ((ρ 9))) (by show 1 + (1 * ρ 0 + 0) = _; omega) (by show 0 + (1 * ρ 9 + 0) = _; omega) (hm _ (List.mem_cons_of_mem _ (List.mem_cons_of_mem _ (List.mem_cons_of_mem _ (List.mem_cons_of_mem _ (List.mem_cons_of_mem _ List.mem_cons_self))))))) (cvp 223 (x' := (64 * (ρ 2) + (ρ 4))) (y' := ((ρ 6))) (by show 0 + (64 * ρ 2 + (1 * ρ 4 + 0)) = _; omega) (by show 0 + (1 * ρ 6 + 0) = _; omega) (hm _ (List.mem_cons_of_mem _ (List.mem_cons_of_mem _ (List.mem_cons_of_mem _ (List.mem_cons_of_mem _ (List.mem_cons_of_mem _ (List.mem_cons_of_mem _ List.mem_cons_self)))))))) (cvp 223 (x' := (64 * (ρ 3) + (ρ 4))) (y' := ((ρ 7))) (by show 0 + (64 * ρ 3 + (1 * ρ 4 + 0)) = _; omega) (by show 0 + (1 * ρ 7 + 0) = _; omega) (hm _ (List.mem_cons_of_mem _ (List.mem_cons_of_mem _ (List.mem_cons_of_mem _ (List.mem_cons_of_mem _ (List.mem_cons_of_mem _ (List.mem_cons_of_mem _ (List.mem_cons_of_mem _ List.mem_cons_self))))))))) (by have h := hF _ List.mem_cons_self; have h : 0 ≤ 0 + ((-1) * ρ 5 + (1 * ρ 6 + 0)) := h; omega) (by have h := hF _ (List.mem_cons_of_mem _ List.mem_cons_self); have h : 0 ≤ 0 + (1 * ρ 5 + ((-1) * ρ 7 + 0)) := h; omega) (by have h := hF _ (List.mem_cons_of_mem _ (List.mem_cons_of_mem _ List.mem_cons_self)); have h : 0 ≤ 0 + (1 * ρ 5 + ((-1) * ρ 6 + ((-1) * ρ 8 + (1 * ρ 9 + 0)))) := h; omega) hG
  obtain ⟨k0, -⟩ := H
  exact ⟨_, List.mem_cons_self, ρ, fun _ _ => rfl, (okM_c (pvp 235 (by show 0 + 0 = _; omega) (by show 1 + (16 * ρ 0 + (2 * ρ 1 + 0)) = _; omega) k0) okM_n), okB_n, okF_n⟩
-- cb110_r
theorem cr_831 (M : pM) (s0 s1 s2 s3 s4 s5 s6 s7 s8 s9 : Int) (b0 : 0 ≤ s0 ∧ s0 ≤ 34) (b1 : 0 ≤ s1 ∧ s1 ≤ 3) (b2 : 0 ≤ s2 ∧ s2 ≤ 63) (b3 : 0 ≤ s3 ∧ s3 ≤ 63) (b4 : 0 ≤ s4 ∧ s4 ≤ 63) (b5 : 0 ≤ s5 ∧ s5 ≤ 3) (b6 : 0 ≤ s6 ∧ s6 ≤ 7) (b7 : 0 ≤ s7 ∧ s7 ≤ 7) (b8 : 0 ≤ s8 ∧ s8 ≤ 35) (b9 : 0 ≤ s9 ∧ s9 ≤ 35) (m0 : (0 ≤ (s0) ∧ M 104 (s0).toNat = (s2))) (m1 : (0 ≤ (s0 + 1) ∧ M 104 (s0 + 1).toNat = (s3))) (m2 : (0 ≤ (s1) ∧ M 87 (s1).toNat = (s4))) (m3 : (0 ≤ (67 : Int) ∧ M 61 (67 : Int).toNat = (s5))) (m4 : (0 ≤ (s0) ∧ M 103 (s0).toNat = (s8))) (m5 : (0 ≤ (s0 + 1) ∧ M 103 (s0 + 1).toNat = (s9))) (m6 : HP 223 (64 * s2 + s4) (s6) M) (m7 : HP 223 (64 * s3 + s4) (s7) M) (f0 : 0 ≤ ((-1) * s5 + s6)) (f1 : 0 ≤ ((-1) * s5 + s7)) (f2 : 0 ≤ ((-2) * s5 + s6 + s7 + s8 + (-1) * s9 - 1)) (hG : gI M) : (HP 235 (0 : Int) (16 * s0 + 2 * s1) M ∧ True) := by
  obtain ⟨x1, x2, y1, y2, y3, y4⟩ := Eq.mp hp_223 m6
  obtain ⟨w1, w2, v1, v2, v3, v4⟩ := Eq.mp hp_223 m7
  have e1 := m1.2
  rw [show (s0 + 1).toNat = s0.toNat + 1 by omega] at e1
  have e5 := m5.2
  rw [show (s0 + 1).toNat = s0.toNat + 1 by omega] at e5
  have e4 := m4.2
  have ez : M 61 67 = s5 := m3.2
  have t1 := tzF_e (ce := M 104) (pt := M 87) (z := M 61 67) (n := s0.toNat) (a := s1.toNat) (v := s6) (by rw [m0.2, m2.2, show s2.toNat = x1 by omega, show s4.toNat = x2 by omega]; exact y4)
  have t2 := tzF_e (ce := M 104) (pt := M 87) (z := M 61 67) (n := s0.toNat + 1) (a := s1.toNat) (v := s7) (by rw [e1, m2.2, show s3.toNat = w1 by omega, show s4.toNat = w2 by omega]; exact v4)
  have hz : ¬ tzR (M 104) (M 103) (M 87) (M 61 67) s0.toNat s1.toNat := by
    unfold tzR
    rw [t1, t2, e4, e5]
    (repeat' split) <;> omega
  exact ⟨Eq.mpr hp_235 ⟨s0.toNat, s1.toNat, 0, by omega, by omega, by omega, by omega, ⟨fun h => absurd h (by decide), fun h => absurd h hz⟩⟩, trivial⟩
theorem rul_831 : Rul r_831 := by
  refine ⟨fun _ ρ M hm hB hF hG => ?_, fun gi gv hg => (by cases hg)⟩
  have H := cr_831 M (ρ 0) (ρ 1) (ρ 2) (ρ 3) (ρ 4) (ρ 5) (ρ 6) (ρ 7) (ρ 8) (ρ 9) (hB _ List.mem_cons_self) (hB _ (List.mem_cons_of_mem _ List.mem_cons_self)) (hB _ (List.mem_cons_of_mem _ (List.mem_cons_of_mem _ List.mem_cons_self))) (hB _ (List.mem_cons_of_mem _ (List.mem_cons_of_mem _ (List.mem_cons_of_mem _ List.mem_cons_self)))) (hB _ (List.mem_cons_of_mem _ (List.mem_cons_of_mem _ (List.mem_cons_of_mem _ (List.mem_cons_of_mem _ List.mem_cons_self))))) (hB _ (List.mem_cons_of_mem _ (List.mem_cons_of_mem _ (List.mem_cons_of_mem _ (List.mem_cons_of_mem _ (List.mem_cons_of_mem _ List.mem_cons_self)))))) (hB _ (List.mem_cons_of_mem _ (List.mem_cons_of_mem _ (List.mem_cons_of_mem _ (List.mem_cons_of_mem _ (List.mem_cons_of_mem _ (List.mem_cons_of_mem _ List.mem_cons_self))))))) (hB _ (List.mem_cons_of_mem _ (List.mem_cons_of_mem _ (List.mem_cons_of_mem _ (List.mem_cons_of_mem _ (List.mem_cons_of_mem _ (List.mem_cons_of_mem _ (List.mem_cons_of_mem _ List.mem_cons_self)))))))) (hB _ (List.mem_cons_of_mem _ (List.mem_cons_of_mem _ (List.mem_cons_of_mem _ (List.mem_cons_of_mem _ (List.mem_cons_of_mem _ (List.mem_cons_of_mem _ (List.mem_cons_of_mem _ (List.mem_cons_of_mem _ List.mem_cons_self))))))))) (hB _ (List.mem_cons_of_mem _ (List.mem_cons_of_mem _ (List.mem_cons_of_mem _ (List.mem_cons_of_mem _ (List.mem_cons_of_mem _ (List.mem_cons_of_mem _ (List.mem_cons_of_mem _ (List.mem_cons_of_mem _ (List.mem_cons_of_mem _ List.mem_cons_self)))))))))) (cvm (c := 104) (by decide) (x' := ((ρ 0))) (y' := ((ρ 2))) (by show 0 + (1 * ρ 0 + 0) = _; omega) (by show 0 + (1 * ρ 2 + 0) = _; omega) (hm _ List.mem_cons_self)) (cvm (c := 104) (by decide) (x' := ((ρ 0) + 1)) (y' := ((ρ 3))) (by show 1 + (1 * ρ 0 + 0) = _; omega) (by show 0 + (1 * ρ 3 + 0) = _; omega) (hm _ (List.mem_cons_of_mem _ List.mem_cons_self))) (cvm (c := 87) (by decide) (x' := ((ρ 1))) (y' := ((ρ 4))) (by show 0 + (1 * ρ 1 + 0) = _; omega) (by show 0 + (1 * ρ 4 + 0) = _; omega) (hm _ (List.mem_cons_of_mem _ (List.mem_cons_of_mem _ List.mem_cons_self)))) (cvm (c := 61) (by decide) (x' := (67 : Int)) (y' := ((ρ 5))) (by show 67 + 0 = _; omega) (by show 0 + (1 * ρ 5 + 0) = _; omega) (hm _ (List.mem_cons_of_mem _ (List.mem_cons_of_mem _ (List.mem_cons_of_mem _ List.mem_cons_self))))) (cvm (c := 103) (by decide) (x' := ((ρ 0))) (y' := ((ρ 8))) (by show 0 + (1 * ρ 0 + 0) = _; omega) (by show 0 + (1 * ρ 8 + 0) = _; omega) (hm _ (List.mem_cons_of_mem _ (List.mem_cons_of_mem _ (List.mem_cons_of_mem _ (List.mem_cons_of_mem _ List.mem_cons_self)))))) (cvm (c := 103) (by decide) (x' := ((ρ 0) + 1)) (y' := ((ρ 9))) (by show 1 + (1 * ρ 0 + 0) = _; omega) (by show 0 + (1 * ρ 9 + 0) = _; omega) (hm _ (List.mem_cons_of_mem _ (List.mem_cons_of_mem _ (List.mem_cons_of_mem _ (List.mem_cons_of_mem _ (List.mem_cons_of_mem _ List.mem_cons_self))))))) (cvp 223 (x' := (64 * (ρ 2) + (ρ 4))) (y' := ((ρ 6))) (by show 0 + (64 * ρ 2 + (1 * ρ 4 + 0)) = _; omega) (by show 0 + (1 * ρ 6 + 0) = _; omega) (hm _ (List.mem_cons_of_mem _ (List.mem_cons_of_mem _ (List.mem_cons_of_mem _ (List.mem_cons_of_mem _ (List.mem_cons_of_mem _ (List.mem_cons_of_mem _ List.mem_cons_self)))))))) (cvp 223 (x' := (64 * (ρ 3) + (ρ 4))) (y' := ((ρ 7))) (by show 0 + (64 * ρ 3 + (1 * ρ 4 + 0)) = _; omega) (by show 0 + (1 * ρ 7 + 0) = _; omega) (hm _ (List.mem_cons_of_mem _ (List.mem_cons_of_mem _ (List.mem_cons_of_mem _ (List.mem_cons_of_mem _ (List.mem_cons_of_mem _ (List.mem_cons_of_mem _ (List.mem_cons_of_mem _ List.mem_cons_self))))))))) (by have h := hF _ List.mem_cons_self; have h : 0 ≤ 0 + ((-1) * ρ 5 + (1 * ρ 6 + 0)) := h; omega) (by have h := hF _ (List.mem_cons_of_mem _ List.mem_cons_self); have h : 0 ≤ 0 + ((-1) * ρ 5 + (1 * ρ 7 + 0)) := h; omega) (by have h := hF _ (List.mem_cons_of_mem _ (List.mem_cons_of_mem _ List.mem_cons_self)); have h : 0 ≤ (-1) + ((-2) * ρ 5 + (1 * ρ 6 + (1 * ρ 7 + (1 * ρ 8 + ((-1) * ρ 9 + 0))))) := h; omega) hG
  obtain ⟨k0, -⟩ := H
  exact ⟨_, List.mem_cons_self, ρ, fun _ _ => rfl, (okM_c (pvp 235 (by show 0 + 0 = _; omega) (by show 0 + (16 * ρ 0 + (2 * ρ 1 + 0)) = _; omega) k0) okM_n), okB_n, okF_n⟩
-- cb111_r
theorem cr_832 (M : pM) (s0 s1 s2 s3 s4 s5 s6 s7 s8 s9 : Int) (b0 : 0 ≤ s0 ∧ s0 ≤ 34) (b1 : 0 ≤ s1 ∧ s1 ≤ 3) (b2 : 0 ≤ s2 ∧ s2 ≤ 63) (b3 : 0 ≤ s3 ∧ s3 ≤ 63) (b4 : 0 ≤ s4 ∧ s4 ≤ 63) (b5 : 0 ≤ s5 ∧ s5 ≤ 3) (b6 : 0 ≤ s6 ∧ s6 ≤ 7) (b7 : 0 ≤ s7 ∧ s7 ≤ 7) (b8 : 0 ≤ s8 ∧ s8 ≤ 35) (b9 : 0 ≤ s9 ∧ s9 ≤ 35) (m0 : (0 ≤ (s0) ∧ M 104 (s0).toNat = (s2))) (m1 : (0 ≤ (s0 + 1) ∧ M 104 (s0 + 1).toNat = (s3))) (m2 : (0 ≤ (s1) ∧ M 87 (s1).toNat = (s4))) (m3 : (0 ≤ (67 : Int) ∧ M 61 (67 : Int).toNat = (s5))) (m4 : (0 ≤ (s0) ∧ M 103 (s0).toNat = (s8))) (m5 : (0 ≤ (s0 + 1) ∧ M 103 (s0 + 1).toNat = (s9))) (m6 : HP 223 (64 * s2 + s4) (s6) M) (m7 : HP 223 (64 * s3 + s4) (s7) M) (f0 : 0 ≤ ((-1) * s5 + s6)) (f1 : 0 ≤ ((-1) * s5 + s7)) (f2 : 0 ≤ (2 * s5 + (-1) * s6 + (-1) * s7 + (-1) * s8 + s9)) (hG : gI M) : (HP 235 (0 : Int) (16 * s0 + 2 * s1 + 1) M ∧ True) := by
  obtain ⟨x1, x2, y1, y2, y3, y4⟩ := Eq.mp hp_223 m6
  obtain ⟨w1, w2, v1, v2, v3, v4⟩ := Eq.mp hp_223 m7
  have e1 := m1.2
  rw [show (s0 + 1).toNat = s0.toNat + 1 by omega] at e1
  have e5 := m5.2
  rw [show (s0 + 1).toNat = s0.toNat + 1 by omega] at e5
  have e4 := m4.2
  have ez : M 61 67 = s5 := m3.2
  have t1 := tzF_e (ce := M 104) (pt := M 87) (z := M 61 67) (n := s0.toNat) (a := s1.toNat) (v := s6) (by rw [m0.2, m2.2, show s2.toNat = x1 by omega, show s4.toNat = x2 by omega]; exact y4)
  have t2 := tzF_e (ce := M 104) (pt := M 87) (z := M 61 67) (n := s0.toNat + 1) (a := s1.toNat) (v := s7) (by rw [e1, m2.2, show s3.toNat = w1 by omega, show s4.toNat = w2 by omega]; exact v4)
  have hz : tzR (M 104) (M 103) (M 87) (M 61 67) s0.toNat s1.toNat := by
    unfold tzR
    rw [t1, t2, e4, e5]
    (repeat' split) <;> omega
  exact ⟨Eq.mpr hp_235 ⟨s0.toNat, s1.toNat, 1, by omega, by omega, by omega, by omega, ⟨fun _ => hz, fun _ => rfl⟩⟩, trivial⟩
theorem rul_832 : Rul r_832 := by
  refine ⟨fun _ ρ M hm hB hF hG => ?_, fun gi gv hg => (by cases hg)⟩
  have H := cr_832 M (ρ 0) (ρ 1) (ρ 2) (ρ 3) (ρ 4) (ρ 5) (ρ 6) (ρ 7) (ρ 8) (ρ 9) (hB _ List.mem_cons_self) (hB _ (List.mem_cons_of_mem _ List.mem_cons_self)) (hB _ (List.mem_cons_of_mem _ (List.mem_cons_of_mem _ List.mem_cons_self))) (hB _ (List.mem_cons_of_mem _ (List.mem_cons_of_mem _ (List.mem_cons_of_mem _ List.mem_cons_self)))) (hB _ (List.mem_cons_of_mem _ (List.mem_cons_of_mem _ (List.mem_cons_of_mem _ (List.mem_cons_of_mem _ List.mem_cons_self))))) (hB _ (List.mem_cons_of_mem _ (List.mem_cons_of_mem _ (List.mem_cons_of_mem _ (List.mem_cons_of_mem _ (List.mem_cons_of_mem _ List.mem_cons_self)))))) (hB _ (List.mem_cons_of_mem _ (List.mem_cons_of_mem _ (List.mem_cons_of_mem _ (List.mem_cons_of_mem _ (List.mem_cons_of_mem _ (List.mem_cons_of_mem _ List.mem_cons_self))))))) (hB _ (List.mem_cons_of_mem _ (List.mem_cons_of_mem _ (List.mem_cons_of_mem _ (List.mem_cons_of_mem _ (List.mem_cons_of_mem _ (List.mem_cons_of_mem _ (List.mem_cons_of_mem _ List.mem_cons_self)))))))) (hB _ (List.mem_cons_of_mem _ (List.mem_cons_of_mem _ (List.mem_cons_of_mem _ (List.mem_cons_of_mem _ (List.mem_cons_of_mem _ (List.mem_cons_of_mem _ (List.mem_cons_of_mem _ (List.mem_cons_of_mem _ List.mem_cons_self))))))))) (hB _ (List.mem_cons_of_mem _ (List.mem_cons_of_mem _ (List.mem_cons_of_mem _ (List.mem_cons_of_mem _ (List.mem_cons_of_mem _ (List.mem_cons_of_mem _ (List.mem_cons_of_mem _ (List.mem_cons_of_mem _ (List.mem_cons_of_mem _ List.mem_cons_self)))))))))) (cvm (c := 104) (by decide) (x' := ((ρ 0))) (y' := ((ρ 2))) (by show 0 + (1 * ρ 0 + 0) = _; omega) (by show 0 + (1 * ρ 2 + 0) = _; omega) (hm _ List.mem_cons_self)) (cvm (c := 104) (by decide) (x' := ((ρ 0) + 1)) (y' := ((ρ 3))) (by show 1 + (1 * ρ 0 + 0) = _; omega) (by show 0 + (1 * ρ 3 + 0) = _; omega) (hm _ (List.mem_cons_of_mem _ List.mem_cons_self))) (cvm (c := 87) (by decide) (x' := ((ρ 1))) (y' := ((ρ 4))) (by show 0 + (1 * ρ 1 + 0) = _; omega) (by show 0 + (1 * ρ 4 + 0) = _; omega) (hm _ (List.mem_cons_of_mem _ (List.mem_cons_of_mem _ List.mem_cons_self)))) (cvm (c := 61) (by decide) (x' := (67 : Int)) (y' := ((ρ 5))) (by show 67 + 0 = _; omega) (by show 0 + (1 * ρ 5 + 0) = _; omega) (hm _ (List.mem_cons_of_mem _ (List.mem_cons_of_mem _ (List.mem_cons_of_mem _ List.mem_cons_self))))) (cvm (c := 103) (by decide) (x' := ((ρ 0))) (y' := ((ρ 8))) (by show 0 + (1 * ρ 0 + 0) = _; omega) (by show 0 + (1 * ρ 8 + 0) = _; omega) (hm _ (List.mem_cons_of_mem _ (List.mem_cons_of_mem _ (List.mem_cons_of_mem _ (List.mem_cons_of_mem _ List.mem_cons_self)))))) (cvm (c := 103) (by decide) (x' := ((ρ 0) + 1)) (y' := ((ρ 9))) (by show 1 + (1 * ρ 0 + 0) = _; omega) (by show 0 + (1 * ρ 9 + 0) = _; omega) (hm _ (List.mem_cons_of_mem _ (List.mem_cons_of_mem _ (List.mem_cons_of_mem _ (List.mem_cons_of_mem _ (List.mem_cons_of_mem _ List.mem_cons_self))))))) (cvp 223 (x' := (64 * (ρ 2) + (ρ 4))) (y' := ((ρ 6))) (by show 0 + (64 * ρ 2 + (1 * ρ 4 + 0)) = _; omega) (by show 0 + (1 * ρ 6 + 0) = _; omega) (hm _ (List.mem_cons_of_mem _ (List.mem_cons_of_mem _ (List.mem_cons_of_mem _ (List.mem_cons_of_mem _ (List.mem_cons_of_mem _ (List.mem_cons_of_mem _ List.mem_cons_self)))))))) (cvp 223 (x' := (64 * (ρ 3) + (ρ 4))) (y' := ((ρ 7))) (by show 0 + (64 * ρ 3 + (1 * ρ 4 + 0)) = _; omega) (by show 0 + (1 * ρ 7 + 0) = _; omega) (hm _ (List.mem_cons_of_mem _ (List.mem_cons_of_mem _ (List.mem_cons_of_mem _ (List.mem_cons_of_mem _ (List.mem_cons_of_mem _ (List.mem_cons_of_mem _ (List.mem_cons_of_mem _ List.mem_cons_self))))))))) (by have h := hF _ List.mem_cons_self; have h : 0 ≤ 0 + ((-1) * ρ 5 + (1 * ρ 6 + 0)) := h; omega) (by have h := hF _ (List.mem_cons_of_mem _ List.mem_cons_self); have h : 0 ≤ 0 + ((-1) * ρ 5 + (1 * ρ 7 + 0)) := h; omega) (by have h := hF _ (List.mem_cons_of_mem _ (List.mem_cons_of_mem _ List.mem_cons_self)); have h : 0 ≤ 0 + (2 * ρ 5 + ((-1) * ρ 6 + ((-1) * ρ 7 + ((-1) * ρ 8 + (1 * ρ 9 + 0))))) := h; omega) hG
  obtain ⟨k0, -⟩ := H
  exact ⟨_, List.mem_cons_self, ρ, fun _ _ => rfl, (okM_c (pvp 235 (by show 0 + 0 = _; omega) (by show 1 + (16 * ρ 0 + (2 * ρ 1 + 0)) = _; omega) k0) okM_n), okB_n, okF_n⟩
-- mr0_r
theorem cr_833 (M : pM) (s0 s1 : Int) (b0 : 0 ≤ s0 ∧ s0 ≤ 36) (b1 : 0 ≤ s1 ∧ s1 ≤ 3) (m0 : (0 ≤ (40 : Int) ∧ M 61 (40 : Int).toNat = (s1))) (hG : gI M) : (HP 239 (0 : Int) (512 * s0) M ∧ True) := by
  have eq_ : M 61 40 = s1 := m0.2
  exact ⟨Eq.mpr hp_239 ⟨s0.toNat, 0, 0, by omega, by omega, by omega, by omega, by omega, rfl⟩, trivial⟩
theorem rul_833 : Rul r_833 := by
  refine ⟨fun _ ρ M hm hB hF hG => ?_, fun gi gv hg => (by cases hg)⟩
  have H := cr_833 M (ρ 0) (ρ 1) (hB _ List.mem_cons_self) (hB _ (List.mem_cons_of_mem _ List.mem_cons_self)) (cvm (c := 61) (by decide) (x' := (40 : Int)) (y' := ((ρ 1))) (by show 40 + 0 = _; omega) (by show 0 + (1 * ρ 1 + 0) = _; omega) (hm _ List.mem_cons_self)) hG
  obtain ⟨k0, -⟩ := H
  exact ⟨_, List.mem_cons_self, ρ, fun _ _ => rfl, (okM_c (pvp 239 (by show 0 + 0 = _; omega) (by show 0 + (512 * ρ 0 + 0) = _; omega) k0) okM_n), okB_n, okF_n⟩
-- mrt_r
theorem cr_834 (M : pM) (s0 s1 s2 s3 s4 : Int) (b0 : 0 ≤ s0 ∧ s0 ≤ 36) (b1 : 0 ≤ s1 ∧ s1 ≤ 35) (b2 : 0 ≤ s2 ∧ s2 ≤ 4) (b3 : 0 ≤ s3 ∧ s3 ≤ 3) (b4 : 0 ≤ s4 ∧ s4 ≤ 3) (m0 : HP 239 (0 : Int) (512 * s0 + 8 * s1 + s2) M) (m1 : HP 233 (0 : Int) (64 * s1 + 8 * s2 + s3) M) (m2 : HP 235 (0 : Int) (16 * s1 + 2 * s3 + 1) M) (m3 : (0 ≤ (40 : Int) ∧ M 61 (40 : Int).toNat = (s4))) (f0 : 0 ≤ (s0 + (-1) * s1 - 2)) (f1 : 0 ≤ ((-1) * s3 + s4)) (hG : gI M) : (HP 239 (0 : Int) (512 * s0 + 8 * s1 + s3 + 9) M ∧ True) := by
  obtain ⟨N, i, r, h1, h2, h3, h4, h5, h6⟩ := Eq.mp hp_239 m0
  obtain ⟨n, b, a, k1, k2, k3, k4, k5, k6⟩ := Eq.mp hp_233 m1
  have e0_ : N = s0.toNat := by omega
  subst e0_
  have e1_ : i = s1.toNat := by omega
  subst e1_
  have e2_ : r = s2.toNat := by omega
  subst e2_
  have e3_ : n = s1.toNat := by omega
  subst e3_
  have e4_ : b = s2.toNat := by omega
  subst e4_
  have e5_ : a = s3.toNat := by omega
  subst e5_
  obtain ⟨n, a, k, c1, c2, c3, c4, c5⟩ := Eq.mp hp_235 m2
  have e6_ : n = s1.toNat := by omega
  subst e6_
  have e7_ : a = s3.toNat := by omega
  subst e7_
  have e8_ : k = 1 := by omega
  subst e8_
  have eq_ : M 61 40 = s4 := m3.2
  exact ⟨Eq.mpr hp_239 ⟨s0.toNat, s1.toNat + 1, s3.toNat + 1, by omega, by omega, by omega, by omega, by omega, ⟨s2.toNat, s3.toNat, h6, k6, Or.inl ⟨⟨by omega, by omega, c5.mp rfl⟩, rfl⟩⟩⟩, trivial⟩
theorem rul_834 : Rul r_834 := by
  refine ⟨fun _ ρ M hm hB hF hG => ?_, fun gi gv hg => (by cases hg)⟩
  have H := cr_834 M (ρ 0) (ρ 1) (ρ 2) (ρ 3) (ρ 4) (hB _ List.mem_cons_self) (hB _ (List.mem_cons_of_mem _ List.mem_cons_self)) (hB _ (List.mem_cons_of_mem _ (List.mem_cons_of_mem _ List.mem_cons_self))) (hB _ (List.mem_cons_of_mem _ (List.mem_cons_of_mem _ (List.mem_cons_of_mem _ List.mem_cons_self)))) (hB _ (List.mem_cons_of_mem _ (List.mem_cons_of_mem _ (List.mem_cons_of_mem _ (List.mem_cons_of_mem _ List.mem_cons_self))))) (cvp 239 (x' := (0 : Int)) (y' := (512 * (ρ 0) + 8 * (ρ 1) + (ρ 2))) (by show 0 + 0 = _; omega) (by show 0 + (512 * ρ 0 + (8 * ρ 1 + (1 * ρ 2 + 0))) = _; omega) (hm _ List.mem_cons_self)) (cvp 233 (x' := (0 : Int)) (y' := (64 * (ρ 1) + 8 * (ρ 2) + (ρ 3))) (by show 0 + 0 = _; omega) (by show 0 + (64 * ρ 1 + (8 * ρ 2 + (1 * ρ 3 + 0))) = _; omega) (hm _ (List.mem_cons_of_mem _ List.mem_cons_self))) (cvp 235 (x' := (0 : Int)) (y' := (16 * (ρ 1) + 2 * (ρ 3) + 1)) (by show 0 + 0 = _; omega) (by show 1 + (16 * ρ 1 + (2 * ρ 3 + 0)) = _; omega) (hm _ (List.mem_cons_of_mem _ (List.mem_cons_of_mem _ List.mem_cons_self)))) (cvm (c := 61) (by decide) (x' := (40 : Int)) (y' := ((ρ 4))) (by show 40 + 0 = _; omega) (by show 0 + (1 * ρ 4 + 0) = _; omega) (hm _ (List.mem_cons_of_mem _ (List.mem_cons_of_mem _ (List.mem_cons_of_mem _ List.mem_cons_self))))) (by have h := hF _ List.mem_cons_self; have h : 0 ≤ (-2) + (1 * ρ 0 + ((-1) * ρ 1 + 0)) := h; omega) (by have h := hF _ (List.mem_cons_of_mem _ List.mem_cons_self); have h : 0 ≤ 0 + ((-1) * ρ 3 + (1 * ρ 4 + 0)) := h; omega) hG
  obtain ⟨k0, -⟩ := H
  exact ⟨_, List.mem_cons_self, ρ, fun _ _ => rfl, (okM_c (pvp 239 (by show 0 + 0 = _; omega) (by show 9 + (512 * ρ 0 + (8 * ρ 1 + (1 * ρ 3 + 0))) = _; omega) k0) okM_n), okB_n, okF_n⟩
-- mrf_r
theorem cr_835 (M : pM) (s0 s1 s2 s3 : Int) (b0 : 0 ≤ s0 ∧ s0 ≤ 36) (b1 : 0 ≤ s1 ∧ s1 ≤ 35) (b2 : 0 ≤ s2 ∧ s2 ≤ 4) (b3 : 0 ≤ s3 ∧ s3 ≤ 3) (m0 : HP 239 (0 : Int) (512 * s0 + 8 * s1 + s2) M) (m1 : HP 233 (0 : Int) (64 * s1 + 8 * s2 + s3) M) (m2 : HP 235 (0 : Int) (16 * s1 + 2 * s3) M) (hG : gI M) : (HP 239 (0 : Int) (512 * s0 + 8 * s1 + s3 + 8) M ∧ True) := by
  obtain ⟨N, i, r, h1, h2, h3, h4, h5, h6⟩ := Eq.mp hp_239 m0
  obtain ⟨n, b, a, k1, k2, k3, k4, k5, k6⟩ := Eq.mp hp_233 m1
  have e0_ : N = s0.toNat := by omega
  subst e0_
  have e1_ : i = s1.toNat := by omega
  subst e1_
  have e2_ : r = s2.toNat := by omega
  subst e2_
  have e3_ : n = s1.toNat := by omega
  subst e3_
  have e4_ : b = s2.toNat := by omega
  subst e4_
  have e5_ : a = s3.toNat := by omega
  subst e5_
  obtain ⟨n, a, k, c1, c2, c3, c4, c5⟩ := Eq.mp hp_235 m2
  have e6_ : n = s1.toNat := by omega
  subst e6_
  have e7_ : a = s3.toNat := by omega
  subst e7_
  have e8_ : k = 0 := by omega
  subst e8_
  exact ⟨Eq.mpr hp_239 ⟨s0.toNat, s1.toNat + 1, s3.toNat, by omega, by omega, by omega, by omega, by omega, ⟨s2.toNat, s3.toNat, h6, k6, Or.inr ⟨fun hh => absurd (c5.mpr hh.2.2) (by decide), rfl⟩⟩⟩, trivial⟩
theorem rul_835 : Rul r_835 := by
  refine ⟨fun _ ρ M hm hB hF hG => ?_, fun gi gv hg => (by cases hg)⟩
  have H := cr_835 M (ρ 0) (ρ 1) (ρ 2) (ρ 3) (hB _ List.mem_cons_self) (hB _ (List.mem_cons_of_mem _ List.mem_cons_self)) (hB _ (List.mem_cons_of_mem _ (List.mem_cons_of_mem _ List.mem_cons_self))) (hB _ (List.mem_cons_of_mem _ (List.mem_cons_of_mem _ (List.mem_cons_of_mem _ List.mem_cons_self)))) (cvp 239 (x' := (0 : Int)) (y' := (512 * (ρ 0) + 8 * (ρ 1) + (ρ 2))) (by show 0 + 0 = _; omega) (by show 0 + (512 * ρ 0 + (8 * ρ 1 + (1 * ρ 2 + 0))) = _; omega) (hm _ List.mem_cons_self)) (cvp 233 (x' := (0 : Int)) (y' := (64 * (ρ 1) + 8 * (ρ 2) + (ρ 3))) (by show 0 + 0 = _; omega) (by show 0 + (64 * ρ 1 + (8 * ρ 2 + (1 * ρ 3 + 0))) = _; omega) (hm _ (List.mem_cons_of_mem _ List.mem_cons_self))) (cvp 235 (x' := (0 : Int)) (y' := (16 * (ρ 1) + 2 * (ρ 3))) (by show 0 + 0 = _; omega) (by show 0 + (16 * ρ 1 + (2 * ρ 3 + 0)) = _; omega) (hm _ (List.mem_cons_of_mem _ (List.mem_cons_of_mem _ List.mem_cons_self)))) hG
  obtain ⟨k0, -⟩ := H
  exact ⟨_, List.mem_cons_self, ρ, fun _ _ => rfl, (okM_c (pvp 239 (by show 0 + 0 = _; omega) (by show 8 + (512 * ρ 0 + (8 * ρ 1 + (1 * ρ 3 + 0))) = _; omega) k0) okM_n), okB_n, okF_n⟩
-- mre_r
theorem cr_836 (M : pM) (s0 s1 s2 s3 s4 : Int) (b0 : 0 ≤ s0 ∧ s0 ≤ 36) (b1 : 0 ≤ s1 ∧ s1 ≤ 35) (b2 : 0 ≤ s2 ∧ s2 ≤ 4) (b3 : 0 ≤ s3 ∧ s3 ≤ 4) (b4 : 0 ≤ s4 ∧ s4 ≤ 3) (m0 : HP 239 (0 : Int) (512 * s0 + 8 * s1 + s2) M) (m1 : HP 233 (0 : Int) (64 * s1 + 8 * s2 + s3) M) (m2 : (0 ≤ (40 : Int) ∧ M 61 (40 : Int).toNat = (s4))) (f0 : 0 ≤ ((-1) * s3 + s4 + 1)) (f1 : 0 ≤ (s3 + (-1) * s4 - 1)) (hG : gI M) : (HP 239 (0 : Int) (512 * s0 + 8 * s1 + s3 + 8) M ∧ True) := by
  obtain ⟨N, i, r, h1, h2, h3, h4, h5, h6⟩ := Eq.mp hp_239 m0
  obtain ⟨n, b, a, k1, k2, k3, k4, k5, k6⟩ := Eq.mp hp_233 m1
  have e0_ : N = s0.toNat := by omega
  subst e0_
  have e1_ : i = s1.toNat := by omega
  subst e1_
  have e2_ : r = s2.toNat := by omega
  subst e2_
  have e3_ : n = s1.toNat := by omega
  subst e3_
  have e4_ : b = s2.toNat := by omega
  subst e4_
  have e5_ : a = s3.toNat := by omega
  subst e5_
  have eq_ : M 61 40 = s4 := m2.2
  exact ⟨Eq.mpr hp_239 ⟨s0.toNat, s1.toNat + 1, s3.toNat, by omega, by omega, by omega, by omega, by omega, ⟨s2.toNat, s3.toNat, h6, k6, Or.inr ⟨fun hh => by have := hh.2.1; omega, rfl⟩⟩⟩, trivial⟩
theorem rul_836 : Rul r_836 := by
  refine ⟨fun _ ρ M hm hB hF hG => ?_, fun gi gv hg => (by cases hg)⟩
  have H := cr_836 M (ρ 0) (ρ 1) (ρ 2) (ρ 3) (ρ 4) (hB _ List.mem_cons_self) (hB _ (List.mem_cons_of_mem _ List.mem_cons_self)) (hB _ (List.mem_cons_of_mem _ (List.mem_cons_of_mem _ List.mem_cons_self))) (hB _ (List.mem_cons_of_mem _ (List.mem_cons_of_mem _ (List.mem_cons_of_mem _ List.mem_cons_self)))) (hB _ (List.mem_cons_of_mem _ (List.mem_cons_of_mem _ (List.mem_cons_of_mem _ (List.mem_cons_of_mem _ List.mem_cons_self))))) (cvp 239 (x' := (0 : Int)) (y' := (512 * (ρ 0) + 8 * (ρ 1) + (ρ 2))) (by show 0 + 0 = _; omega) (by show 0 + (512 * ρ 0 + (8 * ρ 1 + (1 * ρ 2 + 0))) = _; omega) (hm _ List.mem_cons_self)) (cvp 233 (x' := (0 : Int)) (y' := (64 * (ρ 1) + 8 * (ρ 2) + (ρ 3))) (by show 0 + 0 = _; omega) (by show 0 + (64 * ρ 1 + (8 * ρ 2 + (1 * ρ 3 + 0))) = _; omega) (hm _ (List.mem_cons_of_mem _ List.mem_cons_self))) (cvm (c := 61) (by decide) (x' := (40 : Int)) (y' := ((ρ 4))) (by show 40 + 0 = _; omega) (by show 0 + (1 * ρ 4 + 0) = _; omega) (hm _ (List.mem_cons_of_mem _ (List.mem_cons_of_mem _ List.mem_cons_self)))) (by have h := hF _ List.mem_cons_self; have h : 0 ≤ 1 + ((-1) * ρ 3 + (1 * ρ 4 + 0)) := h; omega) (by have h := hF _ (List.mem_cons_of_mem _ List.mem_cons_self); have h : 0 ≤ (-1) + (1 * ρ 3 + ((-1) * ρ 4 + 0)) := h; omega) hG
  obtain ⟨k0, -⟩ := H
  exact ⟨_, List.mem_cons_self, ρ, fun _ _ => rfl, (okM_c (pvp 239 (by show 0 + 0 = _; omega) (by show 8 + (512 * ρ 0 + (8 * ρ 1 + (1 * ρ 3 + 0))) = _; omega) k0) okM_n), okB_n, okF_n⟩
-- mrl_r
theorem cr_837 (M : pM) (s0 s1 s2 s3 : Int) (b0 : 0 ≤ s0 ∧ s0 ≤ 36) (b1 : 0 ≤ s1 ∧ s1 ≤ 35) (b2 : 0 ≤ s2 ∧ s2 ≤ 4) (b3 : 0 ≤ s3 ∧ s3 ≤ 4) (m0 : HP 239 (0 : Int) (512 * s0 + 8 * s1 + s2) M) (m1 : HP 233 (0 : Int) (64 * s1 + 8 * s2 + s3) M) (f0 : 0 ≤ ((-1) * s0 + s1 + 1)) (hG : gI M) : (HP 239 (0 : Int) (512 * s0 + 8 * s1 + s3 + 8) M ∧ True) := by
  obtain ⟨N, i, r, h1, h2, h3, h4, h5, h6⟩ := Eq.mp hp_239 m0
  obtain ⟨n, b, a, k1, k2, k3, k4, k5, k6⟩ := Eq.mp hp_233 m1
  have e0_ : N = s0.toNat := by omega
  subst e0_
  have e1_ : i = s1.toNat := by omega
  subst e1_
  have e2_ : r = s2.toNat := by omega
  subst e2_
  have e3_ : n = s1.toNat := by omega
  subst e3_
  have e4_ : b = s2.toNat := by omega
  subst e4_
  have e5_ : a = s3.toNat := by omega
  subst e5_
  exact ⟨Eq.mpr hp_239 ⟨s0.toNat, s1.toNat + 1, s3.toNat, by omega, by omega, by omega, by omega, by omega, ⟨s2.toNat, s3.toNat, h6, k6, Or.inr ⟨fun hh => by have := hh.1; omega, rfl⟩⟩⟩, trivial⟩
theorem rul_837 : Rul r_837 := by
  refine ⟨fun _ ρ M hm hB hF hG => ?_, fun gi gv hg => (by cases hg)⟩
  have H := cr_837 M (ρ 0) (ρ 1) (ρ 2) (ρ 3) (hB _ List.mem_cons_self) (hB _ (List.mem_cons_of_mem _ List.mem_cons_self)) (hB _ (List.mem_cons_of_mem _ (List.mem_cons_of_mem _ List.mem_cons_self))) (hB _ (List.mem_cons_of_mem _ (List.mem_cons_of_mem _ (List.mem_cons_of_mem _ List.mem_cons_self)))) (cvp 239 (x' := (0 : Int)) (y' := (512 * (ρ 0) + 8 * (ρ 1) + (ρ 2))) (by show 0 + 0 = _; omega) (by show 0 + (512 * ρ 0 + (8 * ρ 1 + (1 * ρ 2 + 0))) = _; omega) (hm _ List.mem_cons_self)) (cvp 233 (x' := (0 : Int)) (y' := (64 * (ρ 1) + 8 * (ρ 2) + (ρ 3))) (by show 0 + 0 = _; omega) (by show 0 + (64 * ρ 1 + (8 * ρ 2 + (1 * ρ 3 + 0))) = _; omega) (hm _ (List.mem_cons_of_mem _ List.mem_cons_self))) (by have h := hF _ List.mem_cons_self; have h : 0 ≤ 1 + ((-1) * ρ 0 + (1 * ρ 1 + 0)) := h; omega) hG
  obtain ⟨k0, -⟩ := H
  exact ⟨_, List.mem_cons_self, ρ, fun _ _ => rfl, (okM_c (pvp 239 (by show 0 + 0 = _; omega) (by show 8 + (512 * ρ 0 + (8 * ρ 1 + (1 * ρ 3 + 0))) = _; omega) k0) okM_n), okB_n, okF_n⟩
-- gq
theorem cr_838 (M : pM) (s0 s1 s2 s3 s4 s5 s6 s7 : Int) (b0 : (-2147483648) ≤ s0 ∧ s0 ≤ 2147483647) (b1 : 0 ≤ s1 ∧ s1 ≤ 7) (b2 : 0 ≤ s2 ∧ s2 ≤ 7) (b3 : 0 ≤ s3 ∧ s3 ≤ 200) (b4 : 0 ≤ s4 ∧ s4 ≤ 200) (b5 : 0 ≤ s5 ∧ s5 ≤ 8) (b6 : 0 ≤ s6 ∧ s6 ≤ 36) (b7 : 0 ≤ s7 ∧ s7 ≤ 36) (m0 : HP 228 (s0) (4096 * s1 + s6 + 2304) M) (m1 : HP 229 (s0) (4096 * s2 + s7 + 2304) M) (m2 : (0 ≤ (1 : Int) ∧ M 40 (1 : Int).toNat = (s5))) (m3 : (0 ≤ (8 : Int) ∧ M 40 (8 : Int).toNat = (s3))) (m4 : (0 ≤ (65 : Int) ∧ M 61 (65 : Int).toNat = (s4))) (m5 : (0 ≤ (4 : Int) ∧ M 48 (4 : Int).toNat = (s6))) (m6 : (0 ≤ (72 : Int) ∧ M 61 (72 : Int).toNat = (s7))) (m7 : HP 197 (s3 + 256 * s5) (0 : Int) M) (f0 : 0 ≤ ((-1) * s1 + s2)) (f1 : 0 ≤ (s1 + (-1) * s2)) (f2 : 0 ≤ ((-1) * s3 + s4)) (f3 : 0 ≤ (s3 + (-1) * s4)) (hG : gI M) : (HP 240 (0 : Int) (s6) M ∧ 0 ≤ ((-1) * s6 + s7) ∧ 0 ≤ (s6 + (-1) * s7) ∧ True) := by
  have hq := tq_o (P := s5.toNat) (F := s3.toNat) m7 ⟨by omega, by omega⟩
  have eF : M 40 8 = s3 := m3.2
  have eG : M 61 65 = s4 := m4.2
  obtain ⟨hN, hA⟩ := gb_eq (p := s1.toNat) (N := s6.toNat) (m := s7.toNat) (Eq.mp hp_228 m0) (Eq.mp hp_229 m1) (by omega) (by omega) (by omega) (by omega) (by omega) (by omega) (fun f hf => by
    obtain ⟨⟨g1, g2, g3, g4, g5⟩, g6⟩ := hq.2 f (by omega)
    exact ⟨g1.symm, g2.symm, g5.symm, g6.symm, g3.symm, g4.symm⟩)
  exact ⟨Eq.mpr hp_240 ⟨by omega, fun i hi => hA i (by omega)⟩, by omega, by omega, trivial⟩
theorem rul_838 : Rul r_838 := by
  refine ⟨fun _ ρ M hm hB hF hG => ?_, fun gi gv hg => (by cases hg)⟩
  have H := cr_838 M (ρ 0) (ρ 1) (ρ 2) (ρ 3) (ρ 4) (ρ 5) (ρ 6) (ρ 7) (hB _ List.mem_cons_self) (hB _ (List.mem_cons_of_mem _ List.mem_cons_self)) (hB _ (List.mem_cons_of_mem _ (List.mem_cons_of_mem _ List.mem_cons_self))) (hB _ (List.mem_cons_of_mem _ (List.mem_cons_of_mem _ (List.mem_cons_of_mem _ List.mem_cons_self)))) (hB _ (List.mem_cons_of_mem _ (List.mem_cons_of_mem _ (List.mem_cons_of_mem _ (List.mem_cons_of_mem _ List.mem_cons_self))))) (hB _ (List.mem_cons_of_mem _ (List.mem_cons_of_mem _ (List.mem_cons_of_mem _ (List.mem_cons_of_mem _ (List.mem_cons_of_mem _ List.mem_cons_self)))))) (hB _ (List.mem_cons_of_mem _ (List.mem_cons_of_mem _ (List.mem_cons_of_mem _ (List.mem_cons_of_mem _ (List.mem_cons_of_mem _ (List.mem_cons_of_mem _ List.mem_cons_self))))))) (hB _ (List.mem_cons_of_mem _ (List.mem_cons_of_mem _ (List.mem_cons_of_mem _ (List.mem_cons_of_mem _ (List.mem_cons_of_mem _ (List.mem_cons_of_mem _ (List.mem_cons_of_mem _ List.mem_cons_self)))))))) (cvp 228 (x' := ((ρ 0))) (y' := (4096 * (ρ 1) + (ρ 6) + 2304)) (by show 0 + (1 * ρ 0 + 0) = _; omega) (by show 2304 + (4096 * ρ 1 + (1 * ρ 6 + 0)) = _; omega) (hm _ List.mem_cons_self)) (cvp 229 (x' := ((ρ 0))) (y' := (4096 * (ρ 2) + (ρ 7) + 2304)) (by show 0 + (1 * ρ 0 + 0) = _; omega) (by show 2304 + (4096 * ρ 2 + (1 * ρ 7 + 0)) = _; omega) (hm _ (List.mem_cons_of_mem _ List.mem_cons_self))) (cvm (c := 40) (by decide) (x' := (1 : Int)) (y' := ((ρ 5))) (by show 1 + 0 = _; omega) (by show 0 + (1 * ρ 5 + 0) = _; omega) (hm _ (List.mem_cons_of_mem _ (List.mem_cons_of_mem _ List.mem_cons_self)))) (cvm (c := 40) (by decide) (x' := (8 : Int)) (y' := ((ρ 3))) (by show 8 + 0 = _; omega) (by show 0 + (1 * ρ 3 + 0) = _; omega) (hm _ (List.mem_cons_of_mem _ (List.mem_cons_of_mem _ (List.mem_cons_of_mem _ List.mem_cons_self))))) (cvm (c := 61) (by decide) (x' := (65 : Int)) (y' := ((ρ 4))) (by show 65 + 0 = _; omega) (by show 0 + (1 * ρ 4 + 0) = _; omega) (hm _ (List.mem_cons_of_mem _ (List.mem_cons_of_mem _ (List.mem_cons_of_mem _ (List.mem_cons_of_mem _ List.mem_cons_self)))))) (cvm (c := 48) (by decide) (x' := (4 : Int)) (y' := ((ρ 6))) (by show 4 + 0 = _; omega) (by show 0 + (1 * ρ 6 + 0) = _; omega) (hm _ (List.mem_cons_of_mem _ (List.mem_cons_of_mem _ (List.mem_cons_of_mem _ (List.mem_cons_of_mem _ (List.mem_cons_of_mem _ List.mem_cons_self))))))) (cvm (c := 61) (by decide) (x' := (72 : Int)) (y' := ((ρ 7))) (by show 72 + 0 = _; omega) (by show 0 + (1 * ρ 7 + 0) = _; omega) (hm _ (List.mem_cons_of_mem _ (List.mem_cons_of_mem _ (List.mem_cons_of_mem _ (List.mem_cons_of_mem _ (List.mem_cons_of_mem _ (List.mem_cons_of_mem _ List.mem_cons_self)))))))) (cvp 197 (x' := ((ρ 3) + 256 * (ρ 5))) (y' := (0 : Int)) (by show 0 + (1 * ρ 3 + (256 * ρ 5 + 0)) = _; omega) (by show 0 + 0 = _; omega) (hm _ (List.mem_cons_of_mem _ (List.mem_cons_of_mem _ (List.mem_cons_of_mem _ (List.mem_cons_of_mem _ (List.mem_cons_of_mem _ (List.mem_cons_of_mem _ (List.mem_cons_of_mem _ List.mem_cons_self))))))))) (by have h := hF _ List.mem_cons_self; have h : 0 ≤ 0 + ((-1) * ρ 1 + (1 * ρ 2 + 0)) := h; omega) (by have h := hF _ (List.mem_cons_of_mem _ List.mem_cons_self); have h : 0 ≤ 0 + (1 * ρ 1 + ((-1) * ρ 2 + 0)) := h; omega) (by have h := hF _ (List.mem_cons_of_mem _ (List.mem_cons_of_mem _ List.mem_cons_self)); have h : 0 ≤ 0 + ((-1) * ρ 3 + (1 * ρ 4 + 0)) := h; omega) (by have h := hF _ (List.mem_cons_of_mem _ (List.mem_cons_of_mem _ (List.mem_cons_of_mem _ List.mem_cons_self))); have h : 0 ≤ 0 + (1 * ρ 3 + ((-1) * ρ 4 + 0)) := h; omega) hG
  obtain ⟨k0, f0, f1, -⟩ := H
  exact ⟨_, List.mem_cons_self, ρ, fun _ _ => rfl, (okM_c (pvp 240 (by show 0 + 0 = _; omega) (by show 0 + (1 * ρ 6 + 0) = _; omega) k0) okM_n), okB_n, (okF_c (by show 0 ≤ 0 + ((-1) * ρ 6 + (1 * ρ 7 + 0)); omega) (okF_c (by show 0 ≤ 0 + (1 * ρ 6 + ((-1) * ρ 7 + 0)); omega) okF_n))⟩
-- lq
theorem cr_839 (M : pM) (s0 s1 s2 s3 s4 s5 s6 : Int) (b0 : 0 ≤ s0 ∧ s0 ≤ 36) (b1 : 0 ≤ s1 ∧ s1 ≤ 36) (b2 : (-2147483648) ≤ s2 ∧ s2 ≤ 2147483647) (b3 : (-2147483648) ≤ s3 ∧ s3 ≤ 2147483647) (b4 : (-2147483648) ≤ s4 ∧ s4 ≤ 2147483647) (b5 : 0 ≤ s5 ∧ s5 ≤ 4) (b6 : 0 ≤ s6 ∧ s6 ≤ 4) (m0 : HP 240 (0 : Int) (s0) M) (m1 : HP 222 (0 : Int) (0 : Int) M) (m2 : (0 ≤ (4 : Int) ∧ M 48 (4 : Int).toNat = (s0))) (m3 : (0 ≤ (72 : Int) ∧ M 61 (72 : Int).toNat = (s1))) (m4 : (0 ≤ (2 : Int) ∧ M 26 (2 : Int).toNat = (s2))) (m5 : (0 ≤ (67 : Int) ∧ M 61 (67 : Int).toNat = (s3))) (m6 : (0 ≤ (41 : Int) ∧ M 61 (41 : Int).toNat = (s4))) (m7 : HP 236 (0 : Int) (8 * s0 + s5) M) (m8 : HP 237 (0 : Int) (8 * s1 + s6) M) (f0 : 0 ≤ ((-1) * s2 + s3)) (f1 : 0 ≤ (s2 + (-1) * s3)) (f2 : 0 ≤ (s4 - 1)) (f3 : 0 ≤ (s0 + (-1) * s1)) (f4 : 0 ≤ ((-1) * s0 + s1)) (hG : gI M) : (0 ≤ ((-1) * s5 + s6) ∧ 0 ≤ (s5 + (-1) * s6) ∧ True) := by
  obtain ⟨hT1, hT⟩ := Eq.mp hp_240 m0
  have e4 : M 26 2 = s2 := m4.2
  have e5 : M 61 67 = s3 := m5.2
  have e6 : M 61 41 = s4 := m6.2
  have ez : M 26 2 = M 61 67 := by omega
  rcases Eq.mp hp_222 m1 with ⟨_, x2⟩ | ⟨x1, x2, x3, x4, x5⟩
  · omega
  · obtain ⟨i, r, h1, h2, h3, h4, h5⟩ := Eq.mp hp_236 m7
    obtain ⟨i2, r2, k1, k2, k3, k4, k5⟩ := Eq.mp hp_237 m8
    have d1 : i = s0.toNat := by omega
    subst d1
    have d2 : r = s5.toNat := by omega
    subst d2
    have d3 : i2 = s0.toNat := by omega
    subst d3
    have d4 : r2 = s6.toNat := by omega
    subst d4
    rw [← x4] at k5
    have ha : ∀ k j, k < s0.toNat → j < (M 26 1).toNat → (zoA (M 51) (M 27) (M 26 2) k j ↔ zoA (M 104) (M 87) (M 61 67) k j) := fun k j hk hj => by
      rw [ez]
      exact zoA_c (hT k (by omega)).2.1 (x5 j (by omega))
    have e := lrR_u h5 (lrR_c ha k5)
    exact ⟨by omega, by omega, trivial⟩
theorem rul_839 : Rul r_839 := by
  refine ⟨fun _ ρ M hm hB hF hG => ?_, fun gi gv hg => (by cases hg)⟩
  have H := cr_839 M (ρ 0) (ρ 1) (ρ 2) (ρ 3) (ρ 4) (ρ 5) (ρ 6) (hB _ List.mem_cons_self) (hB _ (List.mem_cons_of_mem _ List.mem_cons_self)) (hB _ (List.mem_cons_of_mem _ (List.mem_cons_of_mem _ List.mem_cons_self))) (hB _ (List.mem_cons_of_mem _ (List.mem_cons_of_mem _ (List.mem_cons_of_mem _ List.mem_cons_self)))) (hB _ (List.mem_cons_of_mem _ (List.mem_cons_of_mem _ (List.mem_cons_of_mem _ (List.mem_cons_of_mem _ List.mem_cons_self))))) (hB _ (List.mem_cons_of_mem _ (List.mem_cons_of_mem _ (List.mem_cons_of_mem _ (List.mem_cons_of_mem _ (List.mem_cons_of_mem _ List.mem_cons_self)))))) (hB _ (List.mem_cons_of_mem _ (List.mem_cons_of_mem _ (List.mem_cons_of_mem _ (List.mem_cons_of_mem _ (List.mem_cons_of_mem _ (List.mem_cons_of_mem _ List.mem_cons_self))))))) (cvp 240 (x' := (0 : Int)) (y' := ((ρ 0))) (by show 0 + 0 = _; omega) (by show 0 + (1 * ρ 0 + 0) = _; omega) (hm _ List.mem_cons_self)) (cvp 222 (x' := (0 : Int)) (y' := (0 : Int)) (by show 0 + 0 = _; omega) (by show 0 + 0 = _; omega) (hm _ (List.mem_cons_of_mem _ List.mem_cons_self))) (cvm (c := 48) (by decide) (x' := (4 : Int)) (y' := ((ρ 0))) (by show 4 + 0 = _; omega) (by show 0 + (1 * ρ 0 + 0) = _; omega) (hm _ (List.mem_cons_of_mem _ (List.mem_cons_of_mem _ List.mem_cons_self)))) (cvm (c := 61) (by decide) (x' := (72 : Int)) (y' := ((ρ 1))) (by show 72 + 0 = _; omega) (by show 0 + (1 * ρ 1 + 0) = _; omega) (hm _ (List.mem_cons_of_mem _ (List.mem_cons_of_mem _ (List.mem_cons_of_mem _ List.mem_cons_self))))) (cvm (c := 26) (by decide) (x' := (2 : Int)) (y' := ((ρ 2))) (by show 2 + 0 = _; omega) (by show 0 + (1 * ρ 2 + 0) = _; omega) (hm _ (List.mem_cons_of_mem _ (List.mem_cons_of_mem _ (List.mem_cons_of_mem _ (List.mem_cons_of_mem _ List.mem_cons_self)))))) (cvm (c := 61) (by decide) (x' := (67 : Int)) (y' := ((ρ 3))) (by show 67 + 0 = _; omega) (by show 0 + (1 * ρ 3 + 0) = _; omega) (hm _ (List.mem_cons_of_mem _ (List.mem_cons_of_mem _ (List.mem_cons_of_mem _ (List.mem_cons_of_mem _ (List.mem_cons_of_mem _ List.mem_cons_self))))))) (cvm (c := 61) (by decide) (x' := (41 : Int)) (y' := ((ρ 4))) (by show 41 + 0 = _; omega) (by show 0 + (1 * ρ 4 + 0) = _; omega) (hm _ (List.mem_cons_of_mem _ (List.mem_cons_of_mem _ (List.mem_cons_of_mem _ (List.mem_cons_of_mem _ (List.mem_cons_of_mem _ (List.mem_cons_of_mem _ List.mem_cons_self)))))))) (cvp 236 (x' := (0 : Int)) (y' := (8 * (ρ 0) + (ρ 5))) (by show 0 + 0 = _; omega) (by show 0 + (8 * ρ 0 + (1 * ρ 5 + 0)) = _; omega) (hm _ (List.mem_cons_of_mem _ (List.mem_cons_of_mem _ (List.mem_cons_of_mem _ (List.mem_cons_of_mem _ (List.mem_cons_of_mem _ (List.mem_cons_of_mem _ (List.mem_cons_of_mem _ List.mem_cons_self))))))))) (cvp 237 (x' := (0 : Int)) (y' := (8 * (ρ 1) + (ρ 6))) (by show 0 + 0 = _; omega) (by show 0 + (8 * ρ 1 + (1 * ρ 6 + 0)) = _; omega) (hm _ (List.mem_cons_of_mem _ (List.mem_cons_of_mem _ (List.mem_cons_of_mem _ (List.mem_cons_of_mem _ (List.mem_cons_of_mem _ (List.mem_cons_of_mem _ (List.mem_cons_of_mem _ (List.mem_cons_of_mem _ List.mem_cons_self)))))))))) (by have h := hF _ List.mem_cons_self; have h : 0 ≤ 0 + ((-1) * ρ 2 + (1 * ρ 3 + 0)) := h; omega) (by have h := hF _ (List.mem_cons_of_mem _ List.mem_cons_self); have h : 0 ≤ 0 + (1 * ρ 2 + ((-1) * ρ 3 + 0)) := h; omega) (by have h := hF _ (List.mem_cons_of_mem _ (List.mem_cons_of_mem _ List.mem_cons_self)); have h : 0 ≤ (-1) + (1 * ρ 4 + 0) := h; omega) (by have h := hF _ (List.mem_cons_of_mem _ (List.mem_cons_of_mem _ (List.mem_cons_of_mem _ List.mem_cons_self))); have h : 0 ≤ 0 + (1 * ρ 0 + ((-1) * ρ 1 + 0)) := h; omega) (by have h := hF _ (List.mem_cons_of_mem _ (List.mem_cons_of_mem _ (List.mem_cons_of_mem _ (List.mem_cons_of_mem _ List.mem_cons_self)))); have h : 0 ≤ 0 + ((-1) * ρ 0 + (1 * ρ 1 + 0)) := h; omega) hG
  obtain ⟨f0, f1, -⟩ := H
  exact ⟨_, List.mem_cons_self, ρ, fun _ _ => rfl, okM_n, okB_n, (okF_c (by show 0 ≤ 0 + ((-1) * ρ 5 + (1 * ρ 6 + 0)); omega) (okF_c (by show 0 ≤ 0 + (1 * ρ 5 + ((-1) * ρ 6 + 0)); omega) okF_n))⟩
-- mq
theorem cr_840 (M : pM) (s0 s1 s2 s3 s4 s5 s6 : Int) (b0 : 0 ≤ s0 ∧ s0 ≤ 36) (b1 : 0 ≤ s1 ∧ s1 ≤ 36) (b2 : (-2147483648) ≤ s2 ∧ s2 ≤ 2147483647) (b3 : (-2147483648) ≤ s3 ∧ s3 ≤ 2147483647) (b4 : (-2147483648) ≤ s4 ∧ s4 ≤ 2147483647) (b5 : 0 ≤ s5 ∧ s5 ≤ 4) (b6 : 0 ≤ s6 ∧ s6 ≤ 4) (m0 : HP 240 (0 : Int) (s0) M) (m1 : HP 222 (0 : Int) (0 : Int) M) (m2 : (0 ≤ (4 : Int) ∧ M 48 (4 : Int).toNat = (s0))) (m3 : (0 ≤ (72 : Int) ∧ M 61 (72 : Int).toNat = (s1))) (m4 : (0 ≤ (2 : Int) ∧ M 26 (2 : Int).toNat = (s2))) (m5 : (0 ≤ (67 : Int) ∧ M 61 (67 : Int).toNat = (s3))) (m6 : (0 ≤ (41 : Int) ∧ M 61 (41 : Int).toNat = (s4))) (m7 : HP 238 (0 : Int) (520 * s0 + s5) M) (m8 : HP 239 (0 : Int) (520 * s1 + s6) M) (f0 : 0 ≤ ((-1) * s2 + s3)) (f1 : 0 ≤ (s2 + (-1) * s3)) (f2 : 0 ≤ (s4 - 1)) (f3 : 0 ≤ (s0 + (-1) * s1)) (f4 : 0 ≤ ((-1) * s0 + s1)) (hG : gI M) : (0 ≤ ((-1) * s5 + s6) ∧ 0 ≤ (s5 + (-1) * s6) ∧ True) := by
  obtain ⟨hT1, hT⟩ := Eq.mp hp_240 m0
  have e4 : M 26 2 = s2 := m4.2
  have e5 : M 61 67 = s3 := m5.2
  have e6 : M 61 41 = s4 := m6.2
  have ez : M 26 2 = M 61 67 := by omega
  rcases Eq.mp hp_222 m1 with ⟨_, x2⟩ | ⟨x1, x2, x3, x4, x5⟩
  · omega
  · obtain ⟨N, i, r, h0, h1, h2, h3, h4, h5⟩ := Eq.mp hp_238 m7
    obtain ⟨N2, i2, r2, k0, k1, k2, k3, k4, k5⟩ := Eq.mp hp_239 m8
    have d0 : N = s0.toNat := by omega
    subst d0
    have d9 : N2 = s0.toNat := by omega
    subst d9
    have d1 : i = s0.toNat := by omega
    subst d1
    have d2 : r = s5.toNat := by omega
    subst d2
    have d3 : i2 = s0.toNat := by omega
    subst d3
    have d4 : r2 = s6.toNat := by omega
    subst d4
    rw [← x4] at k5
    have ha : ∀ k j, k < s0.toNat → j < (M 26 1).toNat → (zoA (M 51) (M 27) (M 26 2) k j ↔ zoA (M 104) (M 87) (M 61 67) k j) := fun k j hk hj => by
      rw [ez]
      exact zoA_c (hT k (by omega)).2.1 (x5 j (by omega))
    have hb : ∀ k j, k + 1 < s0.toNat → j < (M 26 1).toNat → (tzR (M 51) (M 50) (M 27) (M 26 2) k j ↔ tzR (M 104) (M 103) (M 87) (M 61 67) k j) := fun k j hk hj => by
      unfold tzR tzF
      rw [ez, (hT k (by omega)).2.1, (hT (k + 1) (by omega)).2.1, (hT k (by omega)).1, (hT (k + 1) (by omega)).1, x5 j (by omega)]
    have e := mrR_u h5 (mrR_c ha hb k5)
    exact ⟨by omega, by omega, trivial⟩
theorem rul_840 : Rul r_840 := by
  refine ⟨fun _ ρ M hm hB hF hG => ?_, fun gi gv hg => (by cases hg)⟩
  have H := cr_840 M (ρ 0) (ρ 1) (ρ 2) (ρ 3) (ρ 4) (ρ 5) (ρ 6) (hB _ List.mem_cons_self) (hB _ (List.mem_cons_of_mem _ List.mem_cons_self)) (hB _ (List.mem_cons_of_mem _ (List.mem_cons_of_mem _ List.mem_cons_self))) (hB _ (List.mem_cons_of_mem _ (List.mem_cons_of_mem _ (List.mem_cons_of_mem _ List.mem_cons_self)))) (hB _ (List.mem_cons_of_mem _ (List.mem_cons_of_mem _ (List.mem_cons_of_mem _ (List.mem_cons_of_mem _ List.mem_cons_self))))) (hB _ (List.mem_cons_of_mem _ (List.mem_cons_of_mem _ (List.mem_cons_of_mem _ (List.mem_cons_of_mem _ (List.mem_cons_of_mem _ List.mem_cons_self)))))) (hB _ (List.mem_cons_of_mem _ (List.mem_cons_of_mem _ (List.mem_cons_of_mem _ (List.mem_cons_of_mem _ (List.mem_cons_of_mem _ (List.mem_cons_of_mem _ List.mem_cons_self))))))) (cvp 240 (x' := (0 : Int)) (y' := ((ρ 0))) (by show 0 + 0 = _; omega) (by show 0 + (1 * ρ 0 + 0) = _; omega) (hm _ List.mem_cons_self)) (cvp 222 (x' := (0 : Int)) (y' := (0 : Int)) (by show 0 + 0 = _; omega) (by show 0 + 0 = _; omega) (hm _ (List.mem_cons_of_mem _ List.mem_cons_self))) (cvm (c := 48) (by decide) (x' := (4 : Int)) (y' := ((ρ 0))) (by show 4 + 0 = _; omega) (by show 0 + (1 * ρ 0 + 0) = _; omega) (hm _ (List.mem_cons_of_mem _ (List.mem_cons_of_mem _ List.mem_cons_self)))) (cvm (c := 61) (by decide) (x' := (72 : Int)) (y' := ((ρ 1))) (by show 72 + 0 = _; omega) (by show 0 + (1 * ρ 1 + 0) = _; omega) (hm _ (List.mem_cons_of_mem _ (List.mem_cons_of_mem _ (List.mem_cons_of_mem _ List.mem_cons_self))))) (cvm (c := 26) (by decide) (x' := (2 : Int)) (y' := ((ρ 2))) (by show 2 + 0 = _; omega) (by show 0 + (1 * ρ 2 + 0) = _; omega) (hm _ (List.mem_cons_of_mem _ (List.mem_cons_of_mem _ (List.mem_cons_of_mem _ (List.mem_cons_of_mem _ List.mem_cons_self)))))) (cvm (c := 61) (by decide) (x' := (67 : Int)) (y' := ((ρ 3))) (by show 67 + 0 = _; omega) (by show 0 + (1 * ρ 3 + 0) = _; omega) (hm _ (List.mem_cons_of_mem _ (List.mem_cons_of_mem _ (List.mem_cons_of_mem _ (List.mem_cons_of_mem _ (List.mem_cons_of_mem _ List.mem_cons_self))))))) (cvm (c := 61) (by decide) (x' := (41 : Int)) (y' := ((ρ 4))) (by show 41 + 0 = _; omega) (by show 0 + (1 * ρ 4 + 0) = _; omega) (hm _ (List.mem_cons_of_mem _ (List.mem_cons_of_mem _ (List.mem_cons_of_mem _ (List.mem_cons_of_mem _ (List.mem_cons_of_mem _ (List.mem_cons_of_mem _ List.mem_cons_self)))))))) (cvp 238 (x' := (0 : Int)) (y' := (520 * (ρ 0) + (ρ 5))) (by show 0 + 0 = _; omega) (by show 0 + (520 * ρ 0 + (1 * ρ 5 + 0)) = _; omega) (hm _ (List.mem_cons_of_mem _ (List.mem_cons_of_mem _ (List.mem_cons_of_mem _ (List.mem_cons_of_mem _ (List.mem_cons_of_mem _ (List.mem_cons_of_mem _ (List.mem_cons_of_mem _ List.mem_cons_self))))))))) (cvp 239 (x' := (0 : Int)) (y' := (520 * (ρ 1) + (ρ 6))) (by show 0 + 0 = _; omega) (by show 0 + (520 * ρ 1 + (1 * ρ 6 + 0)) = _; omega) (hm _ (List.mem_cons_of_mem _ (List.mem_cons_of_mem _ (List.mem_cons_of_mem _ (List.mem_cons_of_mem _ (List.mem_cons_of_mem _ (List.mem_cons_of_mem _ (List.mem_cons_of_mem _ (List.mem_cons_of_mem _ List.mem_cons_self)))))))))) (by have h := hF _ List.mem_cons_self; have h : 0 ≤ 0 + ((-1) * ρ 2 + (1 * ρ 3 + 0)) := h; omega) (by have h := hF _ (List.mem_cons_of_mem _ List.mem_cons_self); have h : 0 ≤ 0 + (1 * ρ 2 + ((-1) * ρ 3 + 0)) := h; omega) (by have h := hF _ (List.mem_cons_of_mem _ (List.mem_cons_of_mem _ List.mem_cons_self)); have h : 0 ≤ (-1) + (1 * ρ 4 + 0) := h; omega) (by have h := hF _ (List.mem_cons_of_mem _ (List.mem_cons_of_mem _ (List.mem_cons_of_mem _ List.mem_cons_self))); have h : 0 ≤ 0 + (1 * ρ 0 + ((-1) * ρ 1 + 0)) := h; omega) (by have h := hF _ (List.mem_cons_of_mem _ (List.mem_cons_of_mem _ (List.mem_cons_of_mem _ (List.mem_cons_of_mem _ List.mem_cons_self)))); have h : 0 ≤ 0 + ((-1) * ρ 0 + (1 * ρ 1 + 0)) := h; omega) hG
  obtain ⟨f0, f1, -⟩ := H
  exact ⟨_, List.mem_cons_self, ρ, fun _ _ => rfl, okM_n, okB_n, (okF_c (by show 0 ≤ 0 + ((-1) * ρ 5 + (1 * ρ 6 + 0)); omega) (okF_c (by show 0 ≤ 0 + (1 * ρ 5 + ((-1) * ρ 6 + 0)); omega) okF_n))⟩
-- cf0
theorem cr_841 (M : pM) (s0 : Int) (b0 : 0 ≤ s0 ∧ s0 ≤ 1900) (hG : gI M) : (HP 97 (8 * s0) (0 : Int) M ∧ True) := by
  exact ⟨Eq.mpr hp_97 ⟨s0.toNat, 0, by omega, by decide, by omega, rfl⟩, trivial⟩
theorem rul_841 : Rul r_841 := by
  refine ⟨fun _ ρ M hm hB hF hG => ?_, fun gi gv hg => (by cases hg)⟩
  have H := cr_841 M (ρ 0) (hB _ List.mem_cons_self) hG
  obtain ⟨k0, -⟩ := H
  exact ⟨_, List.mem_cons_self, ρ, fun _ _ => rfl, (okM_c (pvp 97 (by show 0 + (8 * ρ 0 + 0) = _; omega) (by show 0 + 0 = _; omega) k0) okM_n), okB_n, okF_n⟩
-- qf0
theorem cr_842 (M : pM) (s0 s1 : Int) (b0 : 0 ≤ s0 ∧ s0 ≤ 1900) (b1 : (-2147483648) ≤ s1 ∧ s1 ≤ 2147483647) (hG : gI M) : (HP 96 (8 * s0) (s1) M ∧ True) := by
  exact ⟨Eq.mpr hp_96 ⟨s0.toNat, 0, by omega, by decide, by omega, fun j hj => by omega⟩, trivial⟩
theorem rul_842 : Rul r_842 := by
  refine ⟨fun _ ρ M hm hB hF hG => ?_, fun gi gv hg => (by cases hg)⟩
  have H := cr_842 M (ρ 0) (ρ 1) (hB _ List.mem_cons_self) (hB _ (List.mem_cons_of_mem _ List.mem_cons_self)) hG
  obtain ⟨k0, -⟩ := H
  exact ⟨_, List.mem_cons_self, ρ, fun _ _ => rfl, (okM_c (pvp 96 (by show 0 + (8 * ρ 0 + 0) = _; omega) (by show 0 + (1 * ρ 1 + 0) = _; omega) k0) okM_n), okB_n, okF_n⟩
-- and255
theorem cr_843 (M : pM) (s0 s1 : Int) (b0 : (-2147483648) ≤ s0 ∧ s0 ≤ 2147483647) (b1 : (-2147483648) ≤ s1 ∧ s1 ≤ 2147483647) (m0 : HP 100 (4294967296 * s0 + 255) (s1) M) (hG : gI M) : (0 ≤ (s1) ∧ 0 ≤ ((-1) * s1 + 255) ∧ True) := by
  have e := n_and (a := s0) (b := 255) m0 (by omega) (by unfold r32; omega)
  have h := and255_bd s0
  rw [← e] at h
  exact ⟨by omega, by omega, trivial⟩
theorem rul_843 : Rul r_843 := by
  refine ⟨fun _ ρ M hm hB hF hG => ?_, fun gi gv hg => (by cases hg)⟩
  have H := cr_843 M (ρ 0) (ρ 1) (hB _ List.mem_cons_self) (hB _ (List.mem_cons_of_mem _ List.mem_cons_self)) (cvp 100 (x' := (4294967296 * (ρ 0) + 255)) (y' := ((ρ 1))) (by show 255 + (4294967296 * ρ 0 + 0) = _; omega) (by show 0 + (1 * ρ 1 + 0) = _; omega) (hm _ List.mem_cons_self)) hG
  obtain ⟨f0, f1, -⟩ := H
  exact ⟨_, List.mem_cons_self, ρ, fun _ _ => rfl, okM_n, okB_n, (okF_c (by show 0 ≤ 0 + (1 * ρ 1 + 0); omega) (okF_c (by show 0 ≤ 255 + ((-1) * ρ 1 + 0); omega) okF_n))⟩
-- i2bf
theorem cr_844 (M : pM) (s0 s1 : Int) (b0 : (-2147483648) ≤ s0 ∧ s0 ≤ 2147483647) (b1 : (-2147483648) ≤ s1 ∧ s1 ≤ 2147483647) (m0 : HP 120 (s0) (s1) M) (hG : gI M) : (0 ≤ (s1 + 128) ∧ 0 ≤ ((-1) * s1 + 127) ∧ True) := by
  have e := n_i2b m0
  unfold w8 at e
  exact ⟨by omega, by omega, trivial⟩
theorem rul_844 : Rul r_844 := by
  refine ⟨fun _ ρ M hm hB hF hG => ?_, fun gi gv hg => (by cases hg)⟩
  have H := cr_844 M (ρ 0) (ρ 1) (hB _ List.mem_cons_self) (hB _ (List.mem_cons_of_mem _ List.mem_cons_self)) (cvp 120 (x' := ((ρ 0))) (y' := ((ρ 1))) (by show 0 + (1 * ρ 0 + 0) = _; omega) (by show 0 + (1 * ρ 1 + 0) = _; omega) (hm _ List.mem_cons_self)) hG
  obtain ⟨f0, f1, -⟩ := H
  exact ⟨_, List.mem_cons_self, ρ, fun _ _ => rfl, okM_n, okB_n, (okF_c (by show 0 ≤ 128 + (1 * ρ 1 + 0); omega) (okF_c (by show 0 ≤ 127 + ((-1) * ρ 1 + 0); omega) okF_n))⟩
-- and3
theorem cr_845 (M : pM) (s0 s1 : Int) (b0 : 0 ≤ s0 ∧ s0 ≤ 19) (b1 : (-2147483648) ≤ s1 ∧ s1 ≤ 2147483647) (m0 : HP 100 (4294967296 * s0 + 3) (s1) M) (hG : gI M) : (0 ≤ (s0) ∧ 0 ≤ ((-1) * s0 + 3) ∧ 0 ≤ (s0 + (-1) * s1) ∧ 0 ≤ ((-1) * s0 + s1) ∧ True) ∨ (0 ≤ (s0 - 4) ∧ 0 ≤ ((-1) * s0 + 7) ∧ 0 ≤ (s0 + (-1) * s1 - 4) ∧ 0 ≤ ((-1) * s0 + s1 + 4) ∧ True) ∨ (0 ≤ (s0 - 8) ∧ 0 ≤ ((-1) * s0 + 11) ∧ 0 ≤ (s0 + (-1) * s1 - 8) ∧ 0 ≤ ((-1) * s0 + s1 + 8) ∧ True) ∨ (0 ≤ (s0 - 12) ∧ 0 ≤ ((-1) * s0 + 15) ∧ 0 ≤ (s0 + (-1) * s1 - 12) ∧ 0 ≤ ((-1) * s0 + s1 + 12) ∧ True) ∨ (0 ≤ (s0 - 16) ∧ 0 ≤ ((-1) * s0 + 19) ∧ 0 ≤ (s0 + (-1) * s1 - 16) ∧ 0 ≤ ((-1) * s0 + s1 + 16) ∧ True) := by
  have e := n_and (a := s0) (b := 3) m0 (by omega) (by unfold r32; omega)
  have h : s1 = s0 - 4 * (s0 / 4) := by
    have hk := (by decide +kernel : ∀ k : Nat, k < 20 → (Int32.ofInt (k : Nat) &&& Int32.ofInt 3).toInt = (k : Int) - 4 * ((k : Int) / 4)) s0.toNat (by omega)
    rw [show ((s0.toNat : Nat) : Int) = s0 by omega] at hk
    rw [e]; exact hk
  have hq : s0 / 4 = 0 ∨ s0 / 4 = 1 ∨ s0 / 4 = 2 ∨ s0 / 4 = 3 ∨ s0 / 4 = 4 := by omega
  rcases hq with q | q | q | q | q
  · exact Or.inl ⟨by omega, by omega, by omega, by omega, trivial⟩
  · exact Or.inr (Or.inl ⟨by omega, by omega, by omega, by omega, trivial⟩)
  · exact Or.inr (Or.inr (Or.inl ⟨by omega, by omega, by omega, by omega, trivial⟩))
  · exact Or.inr (Or.inr (Or.inr (Or.inl ⟨by omega, by omega, by omega, by omega, trivial⟩)))
  · exact Or.inr (Or.inr (Or.inr (Or.inr (⟨by omega, by omega, by omega, by omega, trivial⟩))))
theorem rul_845 : Rul r_845 := by
  refine ⟨fun _ ρ M hm hB hF hG => ?_, fun gi gv hg => (by cases hg)⟩
  have H := cr_845 M (ρ 0) (ρ 1) (hB _ List.mem_cons_self) (hB _ (List.mem_cons_of_mem _ List.mem_cons_self)) (cvp 100 (x' := (4294967296 * (ρ 0) + 3)) (y' := ((ρ 1))) (by show 3 + (4294967296 * ρ 0 + 0) = _; omega) (by show 0 + (1 * ρ 1 + 0) = _; omega) (hm _ List.mem_cons_self)) hG
  rcases H with H | H
  · skip
    obtain ⟨f0, f1, f2, f3, -⟩ := H
    exact ⟨_, List.mem_cons_self, ρ, fun _ _ => rfl, okM_n, okB_n, (okF_c (by show 0 ≤ 0 + (1 * ρ 0 + 0); omega) (okF_c (by show 0 ≤ 3 + ((-1) * ρ 0 + 0); omega) (okF_c (by show 0 ≤ 0 + (1 * ρ 0 + ((-1) * ρ 1 + 0)); omega) (okF_c (by show 0 ≤ 0 + ((-1) * ρ 0 + (1 * ρ 1 + 0)); omega) okF_n))))⟩
  rcases H with H | H
  · skip
    obtain ⟨f0, f1, f2, f3, -⟩ := H
    exact ⟨_, (List.mem_cons_of_mem _ List.mem_cons_self), ρ, fun _ _ => rfl, okM_n, okB_n, (okF_c (by show 0 ≤ (-4) + (1 * ρ 0 + 0); omega) (okF_c (by show 0 ≤ 7 + ((-1) * ρ 0 + 0); omega) (okF_c (by show 0 ≤ (-4) + (1 * ρ 0 + ((-1) * ρ 1 + 0)); omega) (okF_c (by show 0 ≤ 4 + ((-1) * ρ 0 + (1 * ρ 1 + 0)); omega) okF_n))))⟩
  rcases H with H | H
  · skip
    obtain ⟨f0, f1, f2, f3, -⟩ := H
    exact ⟨_, (List.mem_cons_of_mem _ (List.mem_cons_of_mem _ List.mem_cons_self)), ρ, fun _ _ => rfl, okM_n, okB_n, (okF_c (by show 0 ≤ (-8) + (1 * ρ 0 + 0); omega) (okF_c (by show 0 ≤ 11 + ((-1) * ρ 0 + 0); omega) (okF_c (by show 0 ≤ (-8) + (1 * ρ 0 + ((-1) * ρ 1 + 0)); omega) (okF_c (by show 0 ≤ 8 + ((-1) * ρ 0 + (1 * ρ 1 + 0)); omega) okF_n))))⟩
  rcases H with H | H
  · skip
    obtain ⟨f0, f1, f2, f3, -⟩ := H
    exact ⟨_, (List.mem_cons_of_mem _ (List.mem_cons_of_mem _ (List.mem_cons_of_mem _ List.mem_cons_self))), ρ, fun _ _ => rfl, okM_n, okB_n, (okF_c (by show 0 ≤ (-12) + (1 * ρ 0 + 0); omega) (okF_c (by show 0 ≤ 15 + ((-1) * ρ 0 + 0); omega) (okF_c (by show 0 ≤ (-12) + (1 * ρ 0 + ((-1) * ρ 1 + 0)); omega) (okF_c (by show 0 ≤ 12 + ((-1) * ρ 0 + (1 * ρ 1 + 0)); omega) okF_n))))⟩
  · skip
    obtain ⟨f0, f1, f2, f3, -⟩ := H
    exact ⟨_, (List.mem_cons_of_mem _ (List.mem_cons_of_mem _ (List.mem_cons_of_mem _ (List.mem_cons_of_mem _ List.mem_cons_self)))), ρ, fun _ _ => rfl, okM_n, okB_n, (okF_c (by show 0 ≤ (-16) + (1 * ρ 0 + 0); omega) (okF_c (by show 0 ≤ 19 + ((-1) * ρ 0 + 0); omega) (okF_c (by show 0 ≤ (-16) + (1 * ρ 0 + ((-1) * ρ 1 + 0)); omega) (okF_c (by show 0 ≤ 16 + ((-1) * ρ 0 + (1 * ρ 1 + 0)); omega) okF_n))))⟩
-- fdw
theorem cr_846 (M : pM) (s0 s1 s2 s3 s4 s5 s6 s7 : Int) (b0 : 0 ≤ s0 ∧ s0 ≤ 1900) (b1 : 0 ≤ s1 ∧ s1 ≤ 4) (b3 : 0 ≤ s3 ∧ s3 ≤ 1900) (b4 : 0 ≤ s4 ∧ s4 ≤ 3) (b5 : (-2147483648) ≤ s5 ∧ s5 ≤ 2147483647) (b6 : (-2147483648) ≤ s6 ∧ s6 ≤ 2147483647) (b7 : 0 ≤ s7 ∧ s7 ≤ 255) (m0 : HP 96 (8 * s3 + s4) (s5) M) (m1 : HP 97 (8 * s0 + s1) (s2) M) (m2 : HP 41 (s0) (0 : Int) M) (m3 : HP 105 ((-8) * s4 + 4294967296 * s5 + 24) (s6) M) (m4 : HP 100 (4294967296 * s6 + 255) (s7) M) (f0 : 0 ≤ (s0 + 4 * s1 + (-1) * s3)) (f1 : 0 ≤ ((-1) * s0 + (-4) * s1 + s3)) (hG : gI M) : (HP 96 (8 * s3 + s4 + 1) (s5) (st M 1 (s3 + s4).toNat (s7)) ∧ HP 97 (8 * s0 + s1) (s2) (st M 1 (s3 + s4).toNat (s7)) ∧ HP 41 (s0) (0 : Int) (st M 1 (s3 + s4).toNat (s7)) ∧ True) := by
  obtain ⟨p, gg, h1, h2, h3, h4⟩ := Eq.mp hp_96 m0
  obtain ⟨x, k, k1, k2, k3, k4⟩ := Eq.mp hp_97 m1
  obtain ⟨t1, t2, t3⟩ := Eq.mp hp_41 m2
  have eg : gg = s4.toNat := by omega
  have ep : p = s3.toNat := by omega
  have ex : x = s0.toNat := by omega
  have ek : k = s1.toNat := by omega
  have b1 := n_ushr (a := s5) (b := 24 - 8 * (gg : Int)) m3 (by omega) (by unfold r32; omega)
  have b2 := n_and (a := s6) (b := 255) m4 (by omega) (by unfold r32; omega)
  have hz : s7 = qby s5 gg := by rw [b2, b1]; rfl
  have hn : ∀ j : Nat, j ≠ (s3 + s4).toNat → st M 1 (s3 + s4).toNat (s7) 1 j = M 1 j := fun j hj => if_neg (fun h => hj h.2)
  refine ⟨Eq.mpr hp_96 ⟨p, gg + 1, h1, by omega, by omega, fun j hj => ?_⟩, Eq.mpr hp_97 ⟨x, k, k1, k2, k3, qfd_n (fun i hi => hn i (by omega)) k4⟩, Eq.mpr hp_41 ⟨t1, t2, fun i hi => ?_⟩, trivial⟩
  · by_cases e : j = gg
    · rw [e, show (s3 + s4).toNat = p + gg by omega, cw0, if_pos rfl]; exact hz
    · rw [hn _ (by omega)]; exact h4 j (by omega)
  · rw [hn _ (by omega), show st M 1 (s3 + s4).toNat (s7) 62 i = M 62 i from if_neg (fun h => absurd h.1 (by decide))]; exact t3 i hi
theorem rul_846 : Rul r_846 := by
  refine ⟨fun h => (by cases h), fun gi gv hg ρ M hm hB hF hG => ?_⟩
  obtain ⟨g1, g2⟩ := List.cons.inj (show ([aI ((0 : Int), ([(3, 1), (4, 1)] : List (Nat × Int))), aI ((0 : Int), ([(7, 1)] : List (Nat × Int)))] : List av) = [.inl gi, .inl gv] from hg)
  obtain ⟨g2, -⟩ := List.cons.inj g2
  cases g1
  cases g2
  have ei : ev ρ ((0 : Int), ([(3, 1), (4, 1)] : List (Nat × Int))) = ((ρ 3) + (ρ 4)) := by show 0 + (1 * ρ 3 + (1 * ρ 4 + 0)) = _; omega
  have ew : ev ρ ((0 : Int), ([(7, 1)] : List (Nat × Int))) = ((ρ 7)) := by show 0 + (1 * ρ 7 + 0) = _; omega
  rw [show (st M (ctj r_846) (ev ρ ((0 : Int), ([(3, 1), (4, 1)] : List (Nat × Int)))).toNat (ev ρ ((0 : Int), ([(7, 1)] : List (Nat × Int))))) = (st M 1 ((ρ 3) + (ρ 4)).toNat ((ρ 7))) from by rw [ei, ew]; rfl]
  have H := cr_846 M (ρ 0) (ρ 1) (ρ 2) (ρ 3) (ρ 4) (ρ 5) (ρ 6) (ρ 7) (hB _ List.mem_cons_self) (hB _ (List.mem_cons_of_mem _ List.mem_cons_self)) (hB _ (List.mem_cons_of_mem _ (List.mem_cons_of_mem _ List.mem_cons_self))) (hB _ (List.mem_cons_of_mem _ (List.mem_cons_of_mem _ (List.mem_cons_of_mem _ List.mem_cons_self)))) (hB _ (List.mem_cons_of_mem _ (List.mem_cons_of_mem _ (List.mem_cons_of_mem _ (List.mem_cons_of_mem _ List.mem_cons_self))))) (hB _ (List.mem_cons_of_mem _ (List.mem_cons_of_mem _ (List.mem_cons_of_mem _ (List.mem_cons_of_mem _ (List.mem_cons_of_mem _ List.mem_cons_self)))))) (hB _ (List.mem_cons_of_mem _ (List.mem_cons_of_mem _ (List.mem_cons_of_mem _ (List.mem_cons_of_mem _ (List.mem_cons_of_mem _ (List.mem_cons_of_mem _ List.mem_cons_self))))))) (cvp 96 (x' := (8 * (ρ 3) + (ρ 4))) (y' := ((ρ 5))) (by show 0 + (8 * ρ 3 + (1 * ρ 4 + 0)) = _; omega) (by show 0 + (1 * ρ 5 + 0) = _; omega) (hm _ List.mem_cons_self)) (cvp 97 (x' := (8 * (ρ 0) + (ρ 1))) (y' := ((ρ 2))) (by show 0 + (8 * ρ 0 + (1 * ρ 1 + 0)) = _; omega) (by show 0 + (1 * ρ 2 + 0) = _; omega) (hm _ (List.mem_cons_of_mem _ List.mem_cons_self))) (cvp 41 (x' := ((ρ 0))) (y' := (0 : Int)) (by show 0 + (1 * ρ 0 + 0) = _; omega) (by show 0 + 0 = _; omega) (hm _ (List.mem_cons_of_mem _ (List.mem_cons_of_mem _ List.mem_cons_self)))) (cvp 105 (x' := ((-8) * (ρ 4) + 4294967296 * (ρ 5) + 24)) (y' := ((ρ 6))) (by show 24 + ((-8) * ρ 4 + (4294967296 * ρ 5 + 0)) = _; omega) (by show 0 + (1 * ρ 6 + 0) = _; omega) (hm _ (List.mem_cons_of_mem _ (List.mem_cons_of_mem _ (List.mem_cons_of_mem _ List.mem_cons_self))))) (cvp 100 (x' := (4294967296 * (ρ 6) + 255)) (y' := ((ρ 7))) (by show 255 + (4294967296 * ρ 6 + 0) = _; omega) (by show 0 + (1 * ρ 7 + 0) = _; omega) (hm _ (List.mem_cons_of_mem _ (List.mem_cons_of_mem _ (List.mem_cons_of_mem _ (List.mem_cons_of_mem _ List.mem_cons_self)))))) (by have h := hF _ List.mem_cons_self; have h : 0 ≤ 0 + (1 * ρ 0 + (4 * ρ 1 + ((-1) * ρ 3 + 0))) := h; omega) (by have h := hF _ (List.mem_cons_of_mem _ List.mem_cons_self); have h : 0 ≤ 0 + ((-1) * ρ 0 + ((-4) * ρ 1 + (1 * ρ 3 + 0))) := h; omega) hG
  obtain ⟨k0, k1, k2, -⟩ := H
  exact ⟨_, List.mem_cons_self, ρ, fun _ _ => rfl, (okM_c (pvp 96 (by show 1 + (8 * ρ 3 + (1 * ρ 4 + 0)) = _; omega) (by show 0 + (1 * ρ 5 + 0) = _; omega) k0) (okM_c (pvp 97 (by show 0 + (8 * ρ 0 + (1 * ρ 1 + 0)) = _; omega) (by show 0 + (1 * ρ 2 + 0) = _; omega) k1) (okM_c (pvp 41 (by show 0 + (1 * ρ 0 + 0) = _; omega) (by show 0 + 0 = _; omega) k2) okM_n))), okB_n, okF_n⟩
-- fdx
theorem cr_847 (M : pM) (s0 s1 s2 s3 s4 s5 : Int) (b0 : 0 ≤ s0 ∧ s0 ≤ 1900) (b1 : 0 ≤ s1 ∧ s1 ≤ 4) (b3 : 0 ≤ s3 ∧ s3 ≤ 1900) (b4 : (-2147483648) ≤ s4 ∧ s4 ≤ 2147483647) (b5 : 0 ≤ s5 ∧ s5 ≤ 4) (m0 : HP 96 (8 * s3 + s5) (s4) M) (m1 : HP 97 (8 * s0 + s1) (s2) M) (f0 : 0 ≤ (s0 + 4 * s1 + (-1) * s3)) (f1 : 0 ≤ ((-1) * s0 + (-4) * s1 + s3)) (f2 : 0 ≤ (s5 - 4)) (hG : gI M) : (HP 97 (8 * s0 + s1 + 1) (4294967296 * s2 + s4) M ∧ True) := by
  obtain ⟨p, gg, h1, h2, h3, h4⟩ := Eq.mp hp_96 m0
  obtain ⟨x, k, k1, k2, k3, k4⟩ := Eq.mp hp_97 m1
  have eg : gg = 4 := by omega
  subst eg
  refine ⟨Eq.mpr hp_97 ⟨x, k + 1, k1, by omega, by omega, ⟨s2, s4, by unfold r32; omega, by omega, k4, fun j hj => by rw [show x + 4 * k + j = p + j by omega]; exact h4 j hj⟩⟩, trivial⟩
theorem rul_847 : Rul r_847 := by
  refine ⟨fun _ ρ M hm hB hF hG => ?_, fun gi gv hg => (by cases hg)⟩
  have H := cr_847 M (ρ 0) (ρ 1) (ρ 2) (ρ 3) (ρ 4) (ρ 5) (hB _ List.mem_cons_self) (hB _ (List.mem_cons_of_mem _ List.mem_cons_self)) (hB _ (List.mem_cons_of_mem _ (List.mem_cons_of_mem _ List.mem_cons_self))) (hB _ (List.mem_cons_of_mem _ (List.mem_cons_of_mem _ (List.mem_cons_of_mem _ List.mem_cons_self)))) (hB _ (List.mem_cons_of_mem _ (List.mem_cons_of_mem _ (List.mem_cons_of_mem _ (List.mem_cons_of_mem _ List.mem_cons_self))))) (cvp 96 (x' := (8 * (ρ 3) + (ρ 5))) (y' := ((ρ 4))) (by show 0 + (8 * ρ 3 + (1 * ρ 5 + 0)) = _; omega) (by show 0 + (1 * ρ 4 + 0) = _; omega) (hm _ List.mem_cons_self)) (cvp 97 (x' := (8 * (ρ 0) + (ρ 1))) (y' := ((ρ 2))) (by show 0 + (8 * ρ 0 + (1 * ρ 1 + 0)) = _; omega) (by show 0 + (1 * ρ 2 + 0) = _; omega) (hm _ (List.mem_cons_of_mem _ List.mem_cons_self))) (by have h := hF _ List.mem_cons_self; have h : 0 ≤ 0 + (1 * ρ 0 + (4 * ρ 1 + ((-1) * ρ 3 + 0))) := h; omega) (by have h := hF _ (List.mem_cons_of_mem _ List.mem_cons_self); have h : 0 ≤ 0 + ((-1) * ρ 0 + ((-4) * ρ 1 + (1 * ρ 3 + 0))) := h; omega) (by have h := hF _ (List.mem_cons_of_mem _ (List.mem_cons_of_mem _ List.mem_cons_self)); have h : 0 ≤ (-4) + (1 * ρ 5 + 0) := h; omega) hG
  obtain ⟨k0, -⟩ := H
  exact ⟨_, List.mem_cons_self, ρ, fun _ _ => rfl, (okM_c (pvp 97 (by show 1 + (8 * ρ 0 + (1 * ρ 1 + 0)) = _; omega) (by show 0 + (4294967296 * ρ 2 + (1 * ρ 4 + 0)) = _; omega) k0) okM_n), okB_n, okF_n⟩
-- txw0
theorem cr_848 (M : pM) (s0 s1 s2 s3 s4 s5 s6 s7 s8 s9 : Int) (b0 : 0 ≤ s0 ∧ s0 ≤ 1900) (b1 : 0 ≤ s1 ∧ s1 ≤ 3) (b2 : (-2147483648) ≤ s2 ∧ s2 ≤ 2147483647) (b3 : (-2147483648) ≤ s3 ∧ s3 ≤ 2147483647) (b4 : (-2147483648) ≤ s4 ∧ s4 ≤ 2147483647) (b5 : (-2147483648) ≤ s5 ∧ s5 ≤ 2147483647) (b6 : (-2147483648) ≤ s6 ∧ s6 ≤ 2147483647) (b7 : 0 ≤ s7 ∧ s7 ≤ 3) (b8 : (-2147483648) ≤ s8 ∧ s8 ≤ 2147483647) (b9 : (-128) ≤ s9 ∧ s9 ≤ 127) (m0 : HP 97 (8 * s0 + 5) (340282366920938463463374607431768211456 * s2 + 79228162514264337593543950336 * s3 + 18446744073709551616 * s4 + 4294967296 * s5 + s6) M) (m1 : HP 41 (s0 + s1) (0 : Int) M) (m2 : HP 104 (4294967296 * s2 + (-8) * s7 + 24) (s8) M) (m3 : HP 120 (s8) (s9) M) (f0 : 0 ≤ (s1 + (-1) * s7)) (f1 : 0 ≤ ((-1) * s1 + s7)) (hG : gI M) : (HP 41 (s0 + s1 + 1) (0 : Int) (st M 62 (s0 + s1).toNat (s9)) ∧ HP 97 (8 * s0 + 5) (340282366920938463463374607431768211456 * s2 + 79228162514264337593543950336 * s3 + 18446744073709551616 * s4 + 4294967296 * s5 + s6) (st M 62 (s0 + s1).toNat (s9)) ∧ True) := by
  obtain ⟨x, k, k1, k2, k3, k4⟩ := Eq.mp hp_97 m0
  obtain ⟨t1, t2, t3⟩ := Eq.mp hp_41 m1
  have ex : x = s0.toNat := by omega
  have ek : k = 5 := by omega
  subst ek
  have hb := qfd_5 (v0 := s2) (v1 := s3) (v2 := s4) (v3 := s5) (v4 := s6) k4 (by omega) (by unfold r32; omega) (by unfold r32; omega) (by unfold r32; omega) (by unfold r32; omega) (by unfold r32; omega)
  have b1 := n_shr (a := s2) (b := 24 - 8 * ((s7.toNat : Nat) : Int)) m2 (by omega) (by unfold r32; omega)
  have b2 := n_i2b m3
  have hz : s9 = w8 (M 1 (s0 + s1).toNat) := by rw [show (s0 + s1).toNat = x + 4 * 0 + s7.toNat by omega, hb.1 s7.toNat (by omega), b2, b1]; exact by_w8 s7.toNat (by omega)
  have hn : ∀ c j : Nat, c ≠ 62 → st M 62 (s0 + s1).toNat (s9) c j = M c j := fun c j hj => if_neg (fun h => hj h.1)
  refine ⟨Eq.mpr hp_41 ⟨by omega, by omega, fun i hi => ?_⟩, Eq.mpr hp_97 ⟨x, 5, k1, k2, k3, qfd_n (fun i hi => hn 1 i (by decide)) k4⟩, trivial⟩
  rw [hn 1 _ (by decide), cw0]
  by_cases e : i = (s0 + s1).toNat
  · rw [if_pos e, e]; exact hz
  · rw [if_neg e]; exact t3 i (by omega)
theorem rul_848 : Rul r_848 := by
  refine ⟨fun h => (by cases h), fun gi gv hg ρ M hm hB hF hG => ?_⟩
  obtain ⟨g1, g2⟩ := List.cons.inj (show ([aI ((0 : Int), ([(0, 1), (1, 1)] : List (Nat × Int))), aI ((0 : Int), ([(9, 1)] : List (Nat × Int)))] : List av) = [.inl gi, .inl gv] from hg)
  obtain ⟨g2, -⟩ := List.cons.inj g2
  cases g1
  cases g2
  have ei : ev ρ ((0 : Int), ([(0, 1), (1, 1)] : List (Nat × Int))) = ((ρ 0) + (ρ 1)) := by show 0 + (1 * ρ 0 + (1 * ρ 1 + 0)) = _; omega
  have ew : ev ρ ((0 : Int), ([(9, 1)] : List (Nat × Int))) = ((ρ 9)) := by show 0 + (1 * ρ 9 + 0) = _; omega
  rw [show (st M (ctj r_848) (ev ρ ((0 : Int), ([(0, 1), (1, 1)] : List (Nat × Int)))).toNat (ev ρ ((0 : Int), ([(9, 1)] : List (Nat × Int))))) = (st M 62 ((ρ 0) + (ρ 1)).toNat ((ρ 9))) from by rw [ei, ew]; rfl]
  have H := cr_848 M (ρ 0) (ρ 1) (ρ 2) (ρ 3) (ρ 4) (ρ 5) (ρ 6) (ρ 7) (ρ 8) (ρ 9) (hB _ List.mem_cons_self) (hB _ (List.mem_cons_of_mem _ List.mem_cons_self)) (hB _ (List.mem_cons_of_mem _ (List.mem_cons_of_mem _ List.mem_cons_self))) (hB _ (List.mem_cons_of_mem _ (List.mem_cons_of_mem _ (List.mem_cons_of_mem _ List.mem_cons_self)))) (hB _ (List.mem_cons_of_mem _ (List.mem_cons_of_mem _ (List.mem_cons_of_mem _ (List.mem_cons_of_mem _ List.mem_cons_self))))) (hB _ (List.mem_cons_of_mem _ (List.mem_cons_of_mem _ (List.mem_cons_of_mem _ (List.mem_cons_of_mem _ (List.mem_cons_of_mem _ List.mem_cons_self)))))) (hB _ (List.mem_cons_of_mem _ (List.mem_cons_of_mem _ (List.mem_cons_of_mem _ (List.mem_cons_of_mem _ (List.mem_cons_of_mem _ (List.mem_cons_of_mem _ List.mem_cons_self))))))) (hB _ (List.mem_cons_of_mem _ (List.mem_cons_of_mem _ (List.mem_cons_of_mem _ (List.mem_cons_of_mem _ (List.mem_cons_of_mem _ (List.mem_cons_of_mem _ (List.mem_cons_of_mem _ List.mem_cons_self)))))))) (hB _ (List.mem_cons_of_mem _ (List.mem_cons_of_mem _ (List.mem_cons_of_mem _ (List.mem_cons_of_mem _ (List.mem_cons_of_mem _ (List.mem_cons_of_mem _ (List.mem_cons_of_mem _ (List.mem_cons_of_mem _ List.mem_cons_self))))))))) (hB _ (List.mem_cons_of_mem _ (List.mem_cons_of_mem _ (List.mem_cons_of_mem _ (List.mem_cons_of_mem _ (List.mem_cons_of_mem _ (List.mem_cons_of_mem _ (List.mem_cons_of_mem _ (List.mem_cons_of_mem _ (List.mem_cons_of_mem _ List.mem_cons_self)))))))))) (cvp 97 (x' := (8 * (ρ 0) + 5)) (y' := (340282366920938463463374607431768211456 * (ρ 2) + 79228162514264337593543950336 * (ρ 3) + 18446744073709551616 * (ρ 4) + 4294967296 * (ρ 5) + (ρ 6))) (by show 5 + (8 * ρ 0 + 0) = _; omega) (by show 0 + (340282366920938463463374607431768211456 * ρ 2 + (79228162514264337593543950336 * ρ 3 + (18446744073709551616 * ρ 4 + (4294967296 * ρ 5 + (1 * ρ 6 + 0))))) = _; omega) (hm _ List.mem_cons_self)) (cvp 41 (x' := ((ρ 0) + (ρ 1))) (y' := (0 : Int)) (by show 0 + (1 * ρ 0 + (1 * ρ 1 + 0)) = _; omega) (by show 0 + 0 = _; omega) (hm _ (List.mem_cons_of_mem _ List.mem_cons_self))) (cvp 104 (x' := (4294967296 * (ρ 2) + (-8) * (ρ 7) + 24)) (y' := ((ρ 8))) (by show 24 + (4294967296 * ρ 2 + ((-8) * ρ 7 + 0)) = _; omega) (by show 0 + (1 * ρ 8 + 0) = _; omega) (hm _ (List.mem_cons_of_mem _ (List.mem_cons_of_mem _ List.mem_cons_self)))) (cvp 120 (x' := ((ρ 8))) (y' := ((ρ 9))) (by show 0 + (1 * ρ 8 + 0) = _; omega) (by show 0 + (1 * ρ 9 + 0) = _; omega) (hm _ (List.mem_cons_of_mem _ (List.mem_cons_of_mem _ (List.mem_cons_of_mem _ List.mem_cons_self))))) (by have h := hF _ List.mem_cons_self; have h : 0 ≤ 0 + (1 * ρ 1 + ((-1) * ρ 7 + 0)) := h; omega) (by have h := hF _ (List.mem_cons_of_mem _ List.mem_cons_self); have h : 0 ≤ 0 + ((-1) * ρ 1 + (1 * ρ 7 + 0)) := h; omega) hG
  obtain ⟨k0, k1, -⟩ := H
  exact ⟨_, List.mem_cons_self, ρ, fun _ _ => rfl, (okM_c (pvp 41 (by show 1 + (1 * ρ 0 + (1 * ρ 1 + 0)) = _; omega) (by show 0 + 0 = _; omega) k0) (okM_c (pvp 97 (by show 5 + (8 * ρ 0 + 0) = _; omega) (by show 0 + (340282366920938463463374607431768211456 * ρ 2 + (79228162514264337593543950336 * ρ 3 + (18446744073709551616 * ρ 4 + (4294967296 * ρ 5 + (1 * ρ 6 + 0))))) = _; omega) k1) okM_n)), okB_n, okF_n⟩
-- txw1
theorem cr_849 (M : pM) (s0 s1 s2 s3 s4 s5 s6 s7 s8 s9 : Int) (b0 : 0 ≤ s0 ∧ s0 ≤ 1900) (b1 : 4 ≤ s1 ∧ s1 ≤ 7) (b2 : (-2147483648) ≤ s2 ∧ s2 ≤ 2147483647) (b3 : (-2147483648) ≤ s3 ∧ s3 ≤ 2147483647) (b4 : (-2147483648) ≤ s4 ∧ s4 ≤ 2147483647) (b5 : (-2147483648) ≤ s5 ∧ s5 ≤ 2147483647) (b6 : (-2147483648) ≤ s6 ∧ s6 ≤ 2147483647) (b7 : 0 ≤ s7 ∧ s7 ≤ 3) (b8 : (-2147483648) ≤ s8 ∧ s8 ≤ 2147483647) (b9 : (-128) ≤ s9 ∧ s9 ≤ 127) (m0 : HP 97 (8 * s0 + 5) (340282366920938463463374607431768211456 * s2 + 79228162514264337593543950336 * s3 + 18446744073709551616 * s4 + 4294967296 * s5 + s6) M) (m1 : HP 41 (s0 + s1) (0 : Int) M) (m2 : HP 104 (4294967296 * s3 + (-8) * s7 + 24) (s8) M) (m3 : HP 120 (s8) (s9) M) (f0 : 0 ≤ (s1 + (-1) * s7 - 4)) (f1 : 0 ≤ ((-1) * s1 + s7 + 4)) (hG : gI M) : (HP 41 (s0 + s1 + 1) (0 : Int) (st M 62 (s0 + s1).toNat (s9)) ∧ HP 97 (8 * s0 + 5) (340282366920938463463374607431768211456 * s2 + 79228162514264337593543950336 * s3 + 18446744073709551616 * s4 + 4294967296 * s5 + s6) (st M 62 (s0 + s1).toNat (s9)) ∧ True) := by
  obtain ⟨x, k, k1, k2, k3, k4⟩ := Eq.mp hp_97 m0
  obtain ⟨t1, t2, t3⟩ := Eq.mp hp_41 m1
  have ex : x = s0.toNat := by omega
  have ek : k = 5 := by omega
  subst ek
  have hb := qfd_5 (v0 := s2) (v1 := s3) (v2 := s4) (v3 := s5) (v4 := s6) k4 (by omega) (by unfold r32; omega) (by unfold r32; omega) (by unfold r32; omega) (by unfold r32; omega) (by unfold r32; omega)
  have b1 := n_shr (a := s3) (b := 24 - 8 * ((s7.toNat : Nat) : Int)) m2 (by omega) (by unfold r32; omega)
  have b2 := n_i2b m3
  have hz : s9 = w8 (M 1 (s0 + s1).toNat) := by rw [show (s0 + s1).toNat = x + 4 * 1 + s7.toNat by omega, hb.2.1 s7.toNat (by omega), b2, b1]; exact by_w8 s7.toNat (by omega)
  have hn : ∀ c j : Nat, c ≠ 62 → st M 62 (s0 + s1).toNat (s9) c j = M c j := fun c j hj => if_neg (fun h => hj h.1)
  refine ⟨Eq.mpr hp_41 ⟨by omega, by omega, fun i hi => ?_⟩, Eq.mpr hp_97 ⟨x, 5, k1, k2, k3, qfd_n (fun i hi => hn 1 i (by decide)) k4⟩, trivial⟩
  rw [hn 1 _ (by decide), cw0]
  by_cases e : i = (s0 + s1).toNat
  · rw [if_pos e, e]; exact hz
  · rw [if_neg e]; exact t3 i (by omega)
theorem rul_849 : Rul r_849 := by
  refine ⟨fun h => (by cases h), fun gi gv hg ρ M hm hB hF hG => ?_⟩
  obtain ⟨g1, g2⟩ := List.cons.inj (show ([aI ((0 : Int), ([(0, 1), (1, 1)] : List (Nat × Int))), aI ((0 : Int), ([(9, 1)] : List (Nat × Int)))] : List av) = [.inl gi, .inl gv] from hg)
  obtain ⟨g2, -⟩ := List.cons.inj g2
  cases g1
  cases g2
  have ei : ev ρ ((0 : Int), ([(0, 1), (1, 1)] : List (Nat × Int))) = ((ρ 0) + (ρ 1)) := by show 0 + (1 * ρ 0 + (1 * ρ 1 + 0)) = _; omega
  have ew : ev ρ ((0 : Int), ([(9, 1)] : List (Nat × Int))) = ((ρ 9)) := by show 0 + (1 * ρ 9 + 0) = _; omega
  rw [show (st M (ctj r_849) (ev ρ ((0 : Int), ([(0, 1), (1, 1)] : List (Nat × Int)))).toNat (ev ρ ((0 : Int), ([(9, 1)] : List (Nat × Int))))) = (st M 62 ((ρ 0) + (ρ 1)).toNat ((ρ 9))) from by rw [ei, ew]; rfl]
  have H := cr_849 M (ρ 0) (ρ 1) (ρ 2) (ρ 3) (ρ 4) (ρ 5) (ρ 6) (ρ 7) (ρ 8) (ρ 9) (hB _ List.mem_cons_self) (hB _ (List.mem_cons_of_mem _ List.mem_cons_self)) (hB _ (List.mem_cons_of_mem _ (List.mem_cons_of_mem _ List.mem_cons_self))) (hB _ (List.mem_cons_of_mem _ (List.mem_cons_of_mem _ (List.mem_cons_of_mem _ List.mem_cons_self)))) (hB _ (List.mem_cons_of_mem _ (List.mem_cons_of_mem _ (List.mem_cons_of_mem _ (List.mem_cons_of_mem _ List.mem_cons_self))))) (hB _ (List.mem_cons_of_mem _ (List.mem_cons_of_mem _ (List.mem_cons_of_mem _ (List.mem_cons_of_mem _ (List.mem_cons_of_mem _ List.mem_cons_self)))))) (hB _ (List.mem_cons_of_mem _ (List.mem_cons_of_mem _ (List.mem_cons_of_mem _ (List.mem_cons_of_mem _ (List.mem_cons_of_mem _ (List.mem_cons_of_mem _ List.mem_cons_self))))))) (hB _ (List.mem_cons_of_mem _ (List.mem_cons_of_mem _ (List.mem_cons_of_mem _ (List.mem_cons_of_mem _ (List.mem_cons_of_mem _ (List.mem_cons_of_mem _ (List.mem_cons_of_mem _ List.mem_cons_self)))))))) (hB _ (List.mem_cons_of_mem _ (List.mem_cons_of_mem _ (List.mem_cons_of_mem _ (List.mem_cons_of_mem _ (List.mem_cons_of_mem _ (List.mem_cons_of_mem _ (List.mem_cons_of_mem _ (List.mem_cons_of_mem _ List.mem_cons_self))))))))) (hB _ (List.mem_cons_of_mem _ (List.mem_cons_of_mem _ (List.mem_cons_of_mem _ (List.mem_cons_of_mem _ (List.mem_cons_of_mem _ (List.mem_cons_of_mem _ (List.mem_cons_of_mem _ (List.mem_cons_of_mem _ (List.mem_cons_of_mem _ List.mem_cons_self)))))))))) (cvp 97 (x' := (8 * (ρ 0) + 5)) (y' := (340282366920938463463374607431768211456 * (ρ 2) + 79228162514264337593543950336 * (ρ 3) + 18446744073709551616 * (ρ 4) + 4294967296 * (ρ 5) + (ρ 6))) (by show 5 + (8 * ρ 0 + 0) = _; omega) (by show 0 + (340282366920938463463374607431768211456 * ρ 2 + (79228162514264337593543950336 * ρ 3 + (18446744073709551616 * ρ 4 + (4294967296 * ρ 5 + (1 * ρ 6 + 0))))) = _; omega) (hm _ List.mem_cons_self)) (cvp 41 (x' := ((ρ 0) + (ρ 1))) (y' := (0 : Int)) (by show 0 + (1 * ρ 0 + (1 * ρ 1 + 0)) = _; omega) (by show 0 + 0 = _; omega) (hm _ (List.mem_cons_of_mem _ List.mem_cons_self))) (cvp 104 (x' := (4294967296 * (ρ 3) + (-8) * (ρ 7) + 24)) (y' := ((ρ 8))) (by show 24 + (4294967296 * ρ 3 + ((-8) * ρ 7 + 0)) = _; omega) (by show 0 + (1 * ρ 8 + 0) = _; omega) (hm _ (List.mem_cons_of_mem _ (List.mem_cons_of_mem _ List.mem_cons_self)))) (cvp 120 (x' := ((ρ 8))) (y' := ((ρ 9))) (by show 0 + (1 * ρ 8 + 0) = _; omega) (by show 0 + (1 * ρ 9 + 0) = _; omega) (hm _ (List.mem_cons_of_mem _ (List.mem_cons_of_mem _ (List.mem_cons_of_mem _ List.mem_cons_self))))) (by have h := hF _ List.mem_cons_self; have h : 0 ≤ (-4) + (1 * ρ 1 + ((-1) * ρ 7 + 0)) := h; omega) (by have h := hF _ (List.mem_cons_of_mem _ List.mem_cons_self); have h : 0 ≤ 4 + ((-1) * ρ 1 + (1 * ρ 7 + 0)) := h; omega) hG
  obtain ⟨k0, k1, -⟩ := H
  exact ⟨_, List.mem_cons_self, ρ, fun _ _ => rfl, (okM_c (pvp 41 (by show 1 + (1 * ρ 0 + (1 * ρ 1 + 0)) = _; omega) (by show 0 + 0 = _; omega) k0) (okM_c (pvp 97 (by show 5 + (8 * ρ 0 + 0) = _; omega) (by show 0 + (340282366920938463463374607431768211456 * ρ 2 + (79228162514264337593543950336 * ρ 3 + (18446744073709551616 * ρ 4 + (4294967296 * ρ 5 + (1 * ρ 6 + 0))))) = _; omega) k1) okM_n)), okB_n, okF_n⟩
-- txw2
theorem cr_850 (M : pM) (s0 s1 s2 s3 s4 s5 s6 s7 s8 s9 : Int) (b0 : 0 ≤ s0 ∧ s0 ≤ 1900) (b1 : 8 ≤ s1 ∧ s1 ≤ 11) (b2 : (-2147483648) ≤ s2 ∧ s2 ≤ 2147483647) (b3 : (-2147483648) ≤ s3 ∧ s3 ≤ 2147483647) (b4 : (-2147483648) ≤ s4 ∧ s4 ≤ 2147483647) (b5 : (-2147483648) ≤ s5 ∧ s5 ≤ 2147483647) (b6 : (-2147483648) ≤ s6 ∧ s6 ≤ 2147483647) (b7 : 0 ≤ s7 ∧ s7 ≤ 3) (b8 : (-2147483648) ≤ s8 ∧ s8 ≤ 2147483647) (b9 : (-128) ≤ s9 ∧ s9 ≤ 127) (m0 : HP 97 (8 * s0 + 5) (340282366920938463463374607431768211456 * s2 + 79228162514264337593543950336 * s3 + 18446744073709551616 * s4 + 4294967296 * s5 + s6) M) (m1 : HP 41 (s0 + s1) (0 : Int) M) (m2 : HP 104 (4294967296 * s4 + (-8) * s7 + 24) (s8) M) (m3 : HP 120 (s8) (s9) M) (f0 : 0 ≤ (s1 + (-1) * s7 - 8)) (f1 : 0 ≤ ((-1) * s1 + s7 + 8)) (hG : gI M) : (HP 41 (s0 + s1 + 1) (0 : Int) (st M 62 (s0 + s1).toNat (s9)) ∧ HP 97 (8 * s0 + 5) (340282366920938463463374607431768211456 * s2 + 79228162514264337593543950336 * s3 + 18446744073709551616 * s4 + 4294967296 * s5 + s6) (st M 62 (s0 + s1).toNat (s9)) ∧ True) := by
  obtain ⟨x, k, k1, k2, k3, k4⟩ := Eq.mp hp_97 m0
  obtain ⟨t1, t2, t3⟩ := Eq.mp hp_41 m1
  have ex : x = s0.toNat := by omega
  have ek : k = 5 := by omega
  subst ek
  have hb := qfd_5 (v0 := s2) (v1 := s3) (v2 := s4) (v3 := s5) (v4 := s6) k4 (by omega) (by unfold r32; omega) (by unfold r32; omega) (by unfold r32; omega) (by unfold r32; omega) (by unfold r32; omega)
  have b1 := n_shr (a := s4) (b := 24 - 8 * ((s7.toNat : Nat) : Int)) m2 (by omega) (by unfold r32; omega)
  have b2 := n_i2b m3
  have hz : s9 = w8 (M 1 (s0 + s1).toNat) := by rw [show (s0 + s1).toNat = x + 4 * 2 + s7.toNat by omega, hb.2.2.1 s7.toNat (by omega), b2, b1]; exact by_w8 s7.toNat (by omega)
  have hn : ∀ c j : Nat, c ≠ 62 → st M 62 (s0 + s1).toNat (s9) c j = M c j := fun c j hj => if_neg (fun h => hj h.1)
  refine ⟨Eq.mpr hp_41 ⟨by omega, by omega, fun i hi => ?_⟩, Eq.mpr hp_97 ⟨x, 5, k1, k2, k3, qfd_n (fun i hi => hn 1 i (by decide)) k4⟩, trivial⟩
  rw [hn 1 _ (by decide), cw0]
  by_cases e : i = (s0 + s1).toNat
  · rw [if_pos e, e]; exact hz
  · rw [if_neg e]; exact t3 i (by omega)
theorem rul_850 : Rul r_850 := by
  refine ⟨fun h => (by cases h), fun gi gv hg ρ M hm hB hF hG => ?_⟩
  obtain ⟨g1, g2⟩ := List.cons.inj (show ([aI ((0 : Int), ([(0, 1), (1, 1)] : List (Nat × Int))), aI ((0 : Int), ([(9, 1)] : List (Nat × Int)))] : List av) = [.inl gi, .inl gv] from hg)
  obtain ⟨g2, -⟩ := List.cons.inj g2
  cases g1
  cases g2
  have ei : ev ρ ((0 : Int), ([(0, 1), (1, 1)] : List (Nat × Int))) = ((ρ 0) + (ρ 1)) := by show 0 + (1 * ρ 0 + (1 * ρ 1 + 0)) = _; omega
  have ew : ev ρ ((0 : Int), ([(9, 1)] : List (Nat × Int))) = ((ρ 9)) := by show 0 + (1 * ρ 9 + 0) = _; omega
  rw [show (st M (ctj r_850) (ev ρ ((0 : Int), ([(0, 1), (1, 1)] : List (Nat × Int)))).toNat (ev ρ ((0 : Int), ([(9, 1)] : List (Nat × Int))))) = (st M 62 ((ρ 0) + (ρ 1)).toNat ((ρ 9))) from by rw [ei, ew]; rfl]
  have H := cr_850 M (ρ 0) (ρ 1) (ρ 2) (ρ 3) (ρ 4) (ρ 5) (ρ 6) (ρ 7) (ρ 8) (ρ 9) (hB _ List.mem_cons_self) (hB _ (List.mem_cons_of_mem _ List.mem_cons_self)) (hB _ (List.mem_cons_of_mem _ (List.mem_cons_of_mem _ List.mem_cons_self))) (hB _ (List.mem_cons_of_mem _ (List.mem_cons_of_mem _ (List.mem_cons_of_mem _ List.mem_cons_self)))) (hB _ (List.mem_cons_of_mem _ (List.mem_cons_of_mem _ (List.mem_cons_of_mem _ (List.mem_cons_of_mem _ List.mem_cons_self))))) (hB _ (List.mem_cons_of_mem _ (List.mem_cons_of_mem _ (List.mem_cons_of_mem _ (List.mem_cons_of_mem _ (List.mem_cons_of_mem _ List.mem_cons_self)))))) (hB _ (List.mem_cons_of_mem _ (List.mem_cons_of_mem _ (List.mem_cons_of_mem _ (List.mem_cons_of_mem _ (List.mem_cons_of_mem _ (List.mem_cons_of_mem _ List.mem_cons_self))))))) (hB _ (List.mem_cons_of_mem _ (List.mem_cons_of_mem _ (List.mem_cons_of_mem _ (List.mem_cons_of_mem _ (List.mem_cons_of_mem _ (List.mem_cons_of_mem _ (List.mem_cons_of_mem _ List.mem_cons_self)))))))) (hB _ (List.mem_cons_of_mem _ (List.mem_cons_of_mem _ (List.mem_cons_of_mem _ (List.mem_cons_of_mem _ (List.mem_cons_of_mem _ (List.mem_cons_of_mem _ (List.mem_cons_of_mem _ (List.mem_cons_of_mem _ List.mem_cons_self))))))))) (hB _ (List.mem_cons_of_mem _ (List.mem_cons_of_mem _ (List.mem_cons_of_mem _ (List.mem_cons_of_mem _ (List.mem_cons_of_mem _ (List.mem_cons_of_mem _ (List.mem_cons_of_mem _ (List.mem_cons_of_mem _ (List.mem_cons_of_mem _ List.mem_cons_self)))))))))) (cvp 97 (x' := (8 * (ρ 0) + 5)) (y' := (340282366920938463463374607431768211456 * (ρ 2) + 79228162514264337593543950336 * (ρ 3) + 18446744073709551616 * (ρ 4) + 4294967296 * (ρ 5) + (ρ 6))) (by show 5 + (8 * ρ 0 + 0) = _; omega) (by show 0 + (340282366920938463463374607431768211456 * ρ 2 + (79228162514264337593543950336 * ρ 3 + (18446744073709551616 * ρ 4 + (4294967296 * ρ 5 + (1 * ρ 6 + 0))))) = _; omega) (hm _ List.mem_cons_self)) (cvp 41 (x' := ((ρ 0) + (ρ 1))) (y' := (0 : Int)) (by show 0 + (1 * ρ 0 + (1 * ρ 1 + 0)) = _; omega) (by show 0 + 0 = _; omega) (hm _ (List.mem_cons_of_mem _ List.mem_cons_self))) (cvp 104 (x' := (4294967296 * (ρ 4) + (-8) * (ρ 7) + 24)) (y' := ((ρ 8))) (by show 24 + (4294967296 * ρ 4 + ((-8) * ρ 7 + 0)) = _; omega) (by show 0 + (1 * ρ 8 + 0) = _; omega) (hm _ (List.mem_cons_of_mem _ (List.mem_cons_of_mem _ List.mem_cons_self)))) (cvp 120 (x' := ((ρ 8))) (y' := ((ρ 9))) (by show 0 + (1 * ρ 8 + 0) = _; omega) (by show 0 + (1 * ρ 9 + 0) = _; omega) (hm _ (List.mem_cons_of_mem _ (List.mem_cons_of_mem _ (List.mem_cons_of_mem _ List.mem_cons_self))))) (by have h := hF _ List.mem_cons_self; have h : 0 ≤ (-8) + (1 * ρ 1 + ((-1) * ρ 7 + 0)) := h; omega) (by have h := hF _ (List.mem_cons_of_mem _ List.mem_cons_self); have h : 0 ≤ 8 + ((-1) * ρ 1 + (1 * ρ 7 + 0)) := h; omega) hG
  obtain ⟨k0, k1, -⟩ := H
  exact ⟨_, List.mem_cons_self, ρ, fun _ _ => rfl, (okM_c (pvp 41 (by show 1 + (1 * ρ 0 + (1 * ρ 1 + 0)) = _; omega) (by show 0 + 0 = _; omega) k0) (okM_c (pvp 97 (by show 5 + (8 * ρ 0 + 0) = _; omega) (by show 0 + (340282366920938463463374607431768211456 * ρ 2 + (79228162514264337593543950336 * ρ 3 + (18446744073709551616 * ρ 4 + (4294967296 * ρ 5 + (1 * ρ 6 + 0))))) = _; omega) k1) okM_n)), okB_n, okF_n⟩
-- txw3
theorem cr_851 (M : pM) (s0 s1 s2 s3 s4 s5 s6 s7 s8 s9 : Int) (b0 : 0 ≤ s0 ∧ s0 ≤ 1900) (b1 : 12 ≤ s1 ∧ s1 ≤ 15) (b2 : (-2147483648) ≤ s2 ∧ s2 ≤ 2147483647) (b3 : (-2147483648) ≤ s3 ∧ s3 ≤ 2147483647) (b4 : (-2147483648) ≤ s4 ∧ s4 ≤ 2147483647) (b5 : (-2147483648) ≤ s5 ∧ s5 ≤ 2147483647) (b6 : (-2147483648) ≤ s6 ∧ s6 ≤ 2147483647) (b7 : 0 ≤ s7 ∧ s7 ≤ 3) (b8 : (-2147483648) ≤ s8 ∧ s8 ≤ 2147483647) (b9 : (-128) ≤ s9 ∧ s9 ≤ 127) (m0 : HP 97 (8 * s0 + 5) (340282366920938463463374607431768211456 * s2 + 79228162514264337593543950336 * s3 + 18446744073709551616 * s4 + 4294967296 * s5 + s6) M) (m1 : HP 41 (s0 + s1) (0 : Int) M) (m2 : HP 104 (4294967296 * s5 + (-8) * s7 + 24) (s8) M) (m3 : HP 120 (s8) (s9) M) (f0 : 0 ≤ (s1 + (-1) * s7 - 12)) (f1 : 0 ≤ ((-1) * s1 + s7 + 12)) (hG : gI M) : (HP 41 (s0 + s1 + 1) (0 : Int) (st M 62 (s0 + s1).toNat (s9)) ∧ HP 97 (8 * s0 + 5) (340282366920938463463374607431768211456 * s2 + 79228162514264337593543950336 * s3 + 18446744073709551616 * s4 + 4294967296 * s5 + s6) (st M 62 (s0 + s1).toNat (s9)) ∧ True) := by
  obtain ⟨x, k, k1, k2, k3, k4⟩ := Eq.mp hp_97 m0
  obtain ⟨t1, t2, t3⟩ := Eq.mp hp_41 m1
  have ex : x = s0.toNat := by omega
  have ek : k = 5 := by omega
  subst ek
  have hb := qfd_5 (v0 := s2) (v1 := s3) (v2 := s4) (v3 := s5) (v4 := s6) k4 (by omega) (by unfold r32; omega) (by unfold r32; omega) (by unfold r32; omega) (by unfold r32; omega) (by unfold r32; omega)
  have b1 := n_shr (a := s5) (b := 24 - 8 * ((s7.toNat : Nat) : Int)) m2 (by omega) (by unfold r32; omega)
  have b2 := n_i2b m3
  have hz : s9 = w8 (M 1 (s0 + s1).toNat) := by rw [show (s0 + s1).toNat = x + 4 * 3 + s7.toNat by omega, hb.2.2.2.1 s7.toNat (by omega), b2, b1]; exact by_w8 s7.toNat (by omega)
  have hn : ∀ c j : Nat, c ≠ 62 → st M 62 (s0 + s1).toNat (s9) c j = M c j := fun c j hj => if_neg (fun h => hj h.1)
  refine ⟨Eq.mpr hp_41 ⟨by omega, by omega, fun i hi => ?_⟩, Eq.mpr hp_97 ⟨x, 5, k1, k2, k3, qfd_n (fun i hi => hn 1 i (by decide)) k4⟩, trivial⟩
  rw [hn 1 _ (by decide), cw0]
  by_cases e : i = (s0 + s1).toNat
  · rw [if_pos e, e]; exact hz
  · rw [if_neg e]; exact t3 i (by omega)
theorem rul_851 : Rul r_851 := by
  refine ⟨fun h => (by cases h), fun gi gv hg ρ M hm hB hF hG => ?_⟩
  obtain ⟨g1, g2⟩ := List.cons.inj (show ([aI ((0 : Int), ([(0, 1), (1, 1)] : List (Nat × Int))), aI ((0 : Int), ([(9, 1)] : List (Nat × Int)))] : List av) = [.inl gi, .inl gv] from hg)
  obtain ⟨g2, -⟩ := List.cons.inj g2
  cases g1
  cases g2
  have ei : ev ρ ((0 : Int), ([(0, 1), (1, 1)] : List (Nat × Int))) = ((ρ 0) + (ρ 1)) := by show 0 + (1 * ρ 0 + (1 * ρ 1 + 0)) = _; omega
  have ew : ev ρ ((0 : Int), ([(9, 1)] : List (Nat × Int))) = ((ρ 9)) := by show 0 + (1 * ρ 9 + 0) = _; omega
  rw [show (st M (ctj r_851) (ev ρ ((0 : Int), ([(0, 1), (1, 1)] : List (Nat × Int)))).toNat (ev ρ ((0 : Int), ([(9, 1)] : List (Nat × Int))))) = (st M 62 ((ρ 0) + (ρ 1)).toNat ((ρ 9))) from by rw [ei, ew]; rfl]
  have H := cr_851 M (ρ 0) (ρ 1) (ρ 2) (ρ 3) (ρ 4) (ρ 5) (ρ 6) (ρ 7) (ρ 8) (ρ 9) (hB _ List.mem_cons_self) (hB _ (List.mem_cons_of_mem _ List.mem_cons_self)) (hB _ (List.mem_cons_of_mem _ (List.mem_cons_of_mem _ List.mem_cons_self))) (hB _ (List.mem_cons_of_mem _ (List.mem_cons_of_mem _ (List.mem_cons_of_mem _ List.mem_cons_self)))) (hB _ (List.mem_cons_of_mem _ (List.mem_cons_of_mem _ (List.mem_cons_of_mem _ (List.mem_cons_of_mem _ List.mem_cons_self))))) (hB _ (List.mem_cons_of_mem _ (List.mem_cons_of_mem _ (List.mem_cons_of_mem _ (List.mem_cons_of_mem _ (List.mem_cons_of_mem _ List.mem_cons_self)))))) (hB _ (List.mem_cons_of_mem _ (List.mem_cons_of_mem _ (List.mem_cons_of_mem _ (List.mem_cons_of_mem _ (List.mem_cons_of_mem _ (List.mem_cons_of_mem _ List.mem_cons_self))))))) (hB _ (List.mem_cons_of_mem _ (List.mem_cons_of_mem _ (List.mem_cons_of_mem _ (List.mem_cons_of_mem _ (List.mem_cons_of_mem _ (List.mem_cons_of_mem _ (List.mem_cons_of_mem _ List.mem_cons_self)))))))) (hB _ (List.mem_cons_of_mem _ (List.mem_cons_of_mem _ (List.mem_cons_of_mem _ (List.mem_cons_of_mem _ (List.mem_cons_of_mem _ (List.mem_cons_of_mem _ (List.mem_cons_of_mem _ (List.mem_cons_of_mem _ List.mem_cons_self))))))))) (hB _ (List.mem_cons_of_mem _ (List.mem_cons_of_mem _ (List.mem_cons_of_mem _ (List.mem_cons_of_mem _ (List.mem_cons_of_mem _ (List.mem_cons_of_mem _ (List.mem_cons_of_mem _ (List.mem_cons_of_mem _ (List.mem_cons_of_mem _ List.mem_cons_self)))))))))) (cvp 97 (x' := (8 * (ρ 0) + 5)) (y' := (340282366920938463463374607431768211456 * (ρ 2) + 79228162514264337593543950336 * (ρ 3) + 18446744073709551616 * (ρ 4) + 4294967296 * (ρ 5) + (ρ 6))) (by show 5 + (8 * ρ 0 + 0) = _; omega) (by show 0 + (340282366920938463463374607431768211456 * ρ 2 + (79228162514264337593543950336 * ρ 3 + (18446744073709551616 * ρ 4 + (4294967296 * ρ 5 + (1 * ρ 6 + 0))))) = _; omega) (hm _ List.mem_cons_self)) (cvp 41 (x' := ((ρ 0) + (ρ 1))) (y' := (0 : Int)) (by show 0 + (1 * ρ 0 + (1 * ρ 1 + 0)) = _; omega) (by show 0 + 0 = _; omega) (hm _ (List.mem_cons_of_mem _ List.mem_cons_self))) (cvp 104 (x' := (4294967296 * (ρ 5) + (-8) * (ρ 7) + 24)) (y' := ((ρ 8))) (by show 24 + (4294967296 * ρ 5 + ((-8) * ρ 7 + 0)) = _; omega) (by show 0 + (1 * ρ 8 + 0) = _; omega) (hm _ (List.mem_cons_of_mem _ (List.mem_cons_of_mem _ List.mem_cons_self)))) (cvp 120 (x' := ((ρ 8))) (y' := ((ρ 9))) (by show 0 + (1 * ρ 8 + 0) = _; omega) (by show 0 + (1 * ρ 9 + 0) = _; omega) (hm _ (List.mem_cons_of_mem _ (List.mem_cons_of_mem _ (List.mem_cons_of_mem _ List.mem_cons_self))))) (by have h := hF _ List.mem_cons_self; have h : 0 ≤ (-12) + (1 * ρ 1 + ((-1) * ρ 7 + 0)) := h; omega) (by have h := hF _ (List.mem_cons_of_mem _ List.mem_cons_self); have h : 0 ≤ 12 + ((-1) * ρ 1 + (1 * ρ 7 + 0)) := h; omega) hG
  obtain ⟨k0, k1, -⟩ := H
  exact ⟨_, List.mem_cons_self, ρ, fun _ _ => rfl, (okM_c (pvp 41 (by show 1 + (1 * ρ 0 + (1 * ρ 1 + 0)) = _; omega) (by show 0 + 0 = _; omega) k0) (okM_c (pvp 97 (by show 5 + (8 * ρ 0 + 0) = _; omega) (by show 0 + (340282366920938463463374607431768211456 * ρ 2 + (79228162514264337593543950336 * ρ 3 + (18446744073709551616 * ρ 4 + (4294967296 * ρ 5 + (1 * ρ 6 + 0))))) = _; omega) k1) okM_n)), okB_n, okF_n⟩
-- txw4
theorem cr_852 (M : pM) (s0 s1 s2 s3 s4 s5 s6 s7 s8 s9 : Int) (b0 : 0 ≤ s0 ∧ s0 ≤ 1900) (b1 : 16 ≤ s1 ∧ s1 ≤ 19) (b2 : (-2147483648) ≤ s2 ∧ s2 ≤ 2147483647) (b3 : (-2147483648) ≤ s3 ∧ s3 ≤ 2147483647) (b4 : (-2147483648) ≤ s4 ∧ s4 ≤ 2147483647) (b5 : (-2147483648) ≤ s5 ∧ s5 ≤ 2147483647) (b6 : (-2147483648) ≤ s6 ∧ s6 ≤ 2147483647) (b7 : 0 ≤ s7 ∧ s7 ≤ 3) (b8 : (-2147483648) ≤ s8 ∧ s8 ≤ 2147483647) (b9 : (-128) ≤ s9 ∧ s9 ≤ 127) (m0 : HP 97 (8 * s0 + 5) (340282366920938463463374607431768211456 * s2 + 79228162514264337593543950336 * s3 + 18446744073709551616 * s4 + 4294967296 * s5 + s6) M) (m1 : HP 41 (s0 + s1) (0 : Int) M) (m2 : HP 104 (4294967296 * s6 + (-8) * s7 + 24) (s8) M) (m3 : HP 120 (s8) (s9) M) (f0 : 0 ≤ (s1 + (-1) * s7 - 16)) (f1 : 0 ≤ ((-1) * s1 + s7 + 16)) (hG : gI M) : (HP 41 (s0 + s1 + 1) (0 : Int) (st M 62 (s0 + s1).toNat (s9)) ∧ HP 97 (8 * s0 + 5) (340282366920938463463374607431768211456 * s2 + 79228162514264337593543950336 * s3 + 18446744073709551616 * s4 + 4294967296 * s5 + s6) (st M 62 (s0 + s1).toNat (s9)) ∧ True) := by
  obtain ⟨x, k, k1, k2, k3, k4⟩ := Eq.mp hp_97 m0
  obtain ⟨t1, t2, t3⟩ := Eq.mp hp_41 m1
  have ex : x = s0.toNat := by omega
  have ek : k = 5 := by omega
  subst ek
  have hb := qfd_5 (v0 := s2) (v1 := s3) (v2 := s4) (v3 := s5) (v4 := s6) k4 (by omega) (by unfold r32; omega) (by unfold r32; omega) (by unfold r32; omega) (by unfold r32; omega) (by unfold r32; omega)
  have b1 := n_shr (a := s6) (b := 24 - 8 * ((s7.toNat : Nat) : Int)) m2 (by omega) (by unfold r32; omega)
  have b2 := n_i2b m3
  have hz : s9 = w8 (M 1 (s0 + s1).toNat) := by rw [show (s0 + s1).toNat = x + 4 * 4 + s7.toNat by omega, hb.2.2.2.2 s7.toNat (by omega), b2, b1]; exact by_w8 s7.toNat (by omega)
  have hn : ∀ c j : Nat, c ≠ 62 → st M 62 (s0 + s1).toNat (s9) c j = M c j := fun c j hj => if_neg (fun h => hj h.1)
  refine ⟨Eq.mpr hp_41 ⟨by omega, by omega, fun i hi => ?_⟩, Eq.mpr hp_97 ⟨x, 5, k1, k2, k3, qfd_n (fun i hi => hn 1 i (by decide)) k4⟩, trivial⟩
  rw [hn 1 _ (by decide), cw0]
  by_cases e : i = (s0 + s1).toNat
  · rw [if_pos e, e]; exact hz
  · rw [if_neg e]; exact t3 i (by omega)
theorem rul_852 : Rul r_852 := by
  refine ⟨fun h => (by cases h), fun gi gv hg ρ M hm hB hF hG => ?_⟩
  obtain ⟨g1, g2⟩ := List.cons.inj (show ([aI ((0 : Int), ([(0, 1), (1, 1)] : List (Nat × Int))), aI ((0 : Int), ([(9, 1)] : List (Nat × Int)))] : List av) = [.inl gi, .inl gv] from hg)
  obtain ⟨g2, -⟩ := List.cons.inj g2
  cases g1
  cases g2
  have ei : ev ρ ((0 : Int), ([(0, 1), (1, 1)] : List (Nat × Int))) = ((ρ 0) + (ρ 1)) := by show 0 + (1 * ρ 0 + (1 * ρ 1 + 0)) = _; omega
  have ew : ev ρ ((0 : Int), ([(9, 1)] : List (Nat × Int))) = ((ρ 9)) := by show 0 + (1 * ρ 9 + 0) = _; omega
  rw [show (st M (ctj r_852) (ev ρ ((0 : Int), ([(0, 1), (1, 1)] : List (Nat × Int)))).toNat (ev ρ ((0 : Int), ([(9, 1)] : List (Nat × Int))))) = (st M 62 ((ρ 0) + (ρ 1)).toNat ((ρ 9))) from by rw [ei, ew]; rfl]
  have H := cr_852 M (ρ 0) (ρ 1) (ρ 2) (ρ 3) (ρ 4) (ρ 5) (ρ 6) (ρ 7) (ρ 8) (ρ 9) (hB _ List.mem_cons_self) (hB _ (List.mem_cons_of_mem _ List.mem_cons_self)) (hB _ (List.mem_cons_of_mem _ (List.mem_cons_of_mem _ List.mem_cons_self))) (hB _ (List.mem_cons_of_mem _ (List.mem_cons_of_mem _ (List.mem_cons_of_mem _ List.mem_cons_self)))) (hB _ (List.mem_cons_of_mem _ (List.mem_cons_of_mem _ (List.mem_cons_of_mem _ (List.mem_cons_of_mem _ List.mem_cons_self))))) (hB _ (List.mem_cons_of_mem _ (List.mem_cons_of_mem _ (List.mem_cons_of_mem _ (List.mem_cons_of_mem _ (List.mem_cons_of_mem _ List.mem_cons_self)))))) (hB _ (List.mem_cons_of_mem _ (List.mem_cons_of_mem _ (List.mem_cons_of_mem _ (List.mem_cons_of_mem _ (List.mem_cons_of_mem _ (List.mem_cons_of_mem _ List.mem_cons_self))))))) (hB _ (List.mem_cons_of_mem _ (List.mem_cons_of_mem _ (List.mem_cons_of_mem _ (List.mem_cons_of_mem _ (List.mem_cons_of_mem _ (List.mem_cons_of_mem _ (List.mem_cons_of_mem _ List.mem_cons_self)))))))) (hB _ (List.mem_cons_of_mem _ (List.mem_cons_of_mem _ (List.mem_cons_of_mem _ (List.mem_cons_of_mem _ (List.mem_cons_of_mem _ (List.mem_cons_of_mem _ (List.mem_cons_of_mem _ (List.mem_cons_of_mem _ List.mem_cons_self))))))))) (hB _ (List.mem_cons_of_mem _ (List.mem_cons_of_mem _ (List.mem_cons_of_mem _ (List.mem_cons_of_mem _ (List.mem_cons_of_mem _ (List.mem_cons_of_mem _ (List.mem_cons_of_mem _ (List.mem_cons_of_mem _ (List.mem_cons_of_mem _ List.mem_cons_self)))))))))) (cvp 97 (x' := (8 * (ρ 0) + 5)) (y' := (340282366920938463463374607431768211456 * (ρ 2) + 79228162514264337593543950336 * (ρ 3) + 18446744073709551616 * (ρ 4) + 4294967296 * (ρ 5) + (ρ 6))) (by show 5 + (8 * ρ 0 + 0) = _; omega) (by show 0 + (340282366920938463463374607431768211456 * ρ 2 + (79228162514264337593543950336 * ρ 3 + (18446744073709551616 * ρ 4 + (4294967296 * ρ 5 + (1 * ρ 6 + 0))))) = _; omega) (hm _ List.mem_cons_self)) (cvp 41 (x' := ((ρ 0) + (ρ 1))) (y' := (0 : Int)) (by show 0 + (1 * ρ 0 + (1 * ρ 1 + 0)) = _; omega) (by show 0 + 0 = _; omega) (hm _ (List.mem_cons_of_mem _ List.mem_cons_self))) (cvp 104 (x' := (4294967296 * (ρ 6) + (-8) * (ρ 7) + 24)) (y' := ((ρ 8))) (by show 24 + (4294967296 * ρ 6 + ((-8) * ρ 7 + 0)) = _; omega) (by show 0 + (1 * ρ 8 + 0) = _; omega) (hm _ (List.mem_cons_of_mem _ (List.mem_cons_of_mem _ List.mem_cons_self)))) (cvp 120 (x' := ((ρ 8))) (y' := ((ρ 9))) (by show 0 + (1 * ρ 8 + 0) = _; omega) (by show 0 + (1 * ρ 9 + 0) = _; omega) (hm _ (List.mem_cons_of_mem _ (List.mem_cons_of_mem _ (List.mem_cons_of_mem _ List.mem_cons_self))))) (by have h := hF _ List.mem_cons_self; have h : 0 ≤ (-16) + (1 * ρ 1 + ((-1) * ρ 7 + 0)) := h; omega) (by have h := hF _ (List.mem_cons_of_mem _ List.mem_cons_self); have h : 0 ≤ 16 + ((-1) * ρ 1 + (1 * ρ 7 + 0)) := h; omega) hG
  obtain ⟨k0, k1, -⟩ := H
  exact ⟨_, List.mem_cons_self, ρ, fun _ _ => rfl, (okM_c (pvp 41 (by show 1 + (1 * ρ 0 + (1 * ρ 1 + 0)) = _; omega) (by show 0 + 0 = _; omega) k0) (okM_c (pvp 97 (by show 5 + (8 * ρ 0 + 0) = _; omega) (by show 0 + (340282366920938463463374607431768211456 * ρ 2 + (79228162514264337593543950336 * ρ 3 + (18446744073709551616 * ρ 4 + (4294967296 * ρ 5 + (1 * ρ 6 + 0))))) = _; omega) k1) okM_n)), okB_n, okF_n⟩
-- txd
theorem cr_853 (M : pM) (s0 s1 : Int) (b0 : 0 ≤ s0 ∧ s0 ≤ 1900) (b1 : 0 ≤ s1 ∧ s1 ≤ 1900) (m0 : HP 41 (s0) (0 : Int) M) (f0 : 0 ≤ (s0 + (-1) * s1)) (hG : gI M) : (HP 41 (s1) (0 : Int) M ∧ True) := by
  obtain ⟨t1, t2, t3⟩ := Eq.mp hp_41 m0
  exact ⟨Eq.mpr hp_41 ⟨by omega, by omega, fun i hi => t3 i (by omega)⟩, trivial⟩
theorem rul_853 : Rul r_853 := by
  refine ⟨fun _ ρ M hm hB hF hG => ?_, fun gi gv hg => (by cases hg)⟩
  have H := cr_853 M (ρ 0) (ρ 1) (hB _ List.mem_cons_self) (hB _ (List.mem_cons_of_mem _ List.mem_cons_self)) (cvp 41 (x' := ((ρ 0))) (y' := (0 : Int)) (by show 0 + (1 * ρ 0 + 0) = _; omega) (by show 0 + 0 = _; omega) (hm _ List.mem_cons_self)) (by have h := hF _ List.mem_cons_self; have h : 0 ≤ 0 + (1 * ρ 0 + ((-1) * ρ 1 + 0)) := h; omega) hG
  obtain ⟨k0, -⟩ := H
  exact ⟨_, List.mem_cons_self, ρ, fun _ _ => rfl, (okM_c (pvp 41 (by show 0 + (1 * ρ 1 + 0) = _; omega) (by show 0 + 0 = _; omega) k0) okM_n), okB_n, okF_n⟩
-- tx0
theorem cr_854 (M : pM)  (hG : gI M) : (HP 41 (0 : Int) (0 : Int) M ∧ True) := by
  exact ⟨Eq.mpr hp_41 ⟨by decide, by decide, fun i hi => by omega⟩, trivial⟩
theorem rul_854 : Rul r_854 := by
  refine ⟨fun _ ρ M hm hB hF hG => ?_, fun gi gv hg => (by cases hg)⟩
  have H := cr_854 M hG
  obtain ⟨k0, -⟩ := H
  exact ⟨_, List.mem_cons_self, ρ, fun _ _ => rfl, (okM_c (pvp 41 (by show 0 + 0 = _; omega) (by show 0 + 0 = _; omega) k0) okM_n), okB_n, okF_n⟩
-- flq
theorem cr_855 (M : pM) (s0 s1 s2 s3 : Int) (b0 : (-2147483648) ≤ s0 ∧ s0 ≤ 2147483647) (b1 : 1 ≤ s1 ∧ s1 ≤ 5) (b2 : (-2147483648) ≤ s2 ∧ s2 ≤ 2147483647) (b3 : 1 ≤ s3 ∧ s3 ≤ 5) (m0 : HP 66 (s0) (s1) M) (m1 : HP 66 (s2) (s3) M) (hG : gI M) : (0 ≤ ((-1) * s0 + s2) ∧ 0 ≤ (s0 + (-1) * s2) ∧ 0 ≤ ((-1) * s1 + s3) ∧ 0 ≤ (s1 + (-1) * s3) ∧ True) := by
  obtain ⟨l, s, h1, h2⟩ := Eq.mp hp_66 m0
  obtain ⟨l', t, k1, k2⟩ := Eq.mp hp_66 m1
  obtain ⟨e1, e2⟩ := stuck_u h1 (fa_nx h2) k1 (fa_nx k2)
  subst e2
  rw [h2] at k2
  have k3 := Option.some.inj k2
  have e3 := congrArg Prod.fst k3
  have e4 := congrArg Prod.snd k3
  have e3 : s0 = s2 := e3
  have e4 : s1 = s3 := e4
  exact ⟨by omega, by omega, by omega, by omega, trivial⟩
theorem rul_855 : Rul r_855 := by
  refine ⟨fun _ ρ M hm hB hF hG => ?_, fun gi gv hg => (by cases hg)⟩
  have H := cr_855 M (ρ 0) (ρ 1) (ρ 2) (ρ 3) (hB _ List.mem_cons_self) (hB _ (List.mem_cons_of_mem _ List.mem_cons_self)) (hB _ (List.mem_cons_of_mem _ (List.mem_cons_of_mem _ List.mem_cons_self))) (hB _ (List.mem_cons_of_mem _ (List.mem_cons_of_mem _ (List.mem_cons_of_mem _ List.mem_cons_self)))) (cvp 66 (x' := ((ρ 0))) (y' := ((ρ 1))) (by show 0 + (1 * ρ 0 + 0) = _; omega) (by show 0 + (1 * ρ 1 + 0) = _; omega) (hm _ List.mem_cons_self)) (cvp 66 (x' := ((ρ 2))) (y' := ((ρ 3))) (by show 0 + (1 * ρ 2 + 0) = _; omega) (by show 0 + (1 * ρ 3 + 0) = _; omega) (hm _ (List.mem_cons_of_mem _ List.mem_cons_self))) hG
  obtain ⟨f0, f1, f2, f3, -⟩ := H
  exact ⟨_, List.mem_cons_self, ρ, fun _ _ => rfl, okM_n, okB_n, (okF_c (by show 0 ≤ 0 + ((-1) * ρ 0 + (1 * ρ 2 + 0)); omega) (okF_c (by show 0 ≤ 0 + (1 * ρ 0 + ((-1) * ρ 2 + 0)); omega) (okF_c (by show 0 ≤ 0 + ((-1) * ρ 1 + (1 * ρ 3 + 0)); omega) (okF_c (by show 0 ≤ 0 + (1 * ρ 1 + ((-1) * ρ 3 + 0)); omega) okF_n))))⟩
-- c01
theorem cr_856 (M : pM) (s0 : Int) (b0 : 0 ≤ s0 ∧ s0 ≤ 1) (hG : gI M) : (0 ≤ ((-1) * s0) ∧ 0 ≤ (s0) ∧ True) ∨ (0 ≤ ((-1) * s0 + 1) ∧ 0 ≤ (s0 - 1) ∧ True) := by
  by_cases h : s0 = 0
  · exact Or.inl ⟨by omega, by omega, trivial⟩
  · exact Or.inr ⟨by omega, by omega, trivial⟩
theorem rul_856 : Rul r_856 := by
  refine ⟨fun _ ρ M hm hB hF hG => ?_, fun gi gv hg => (by cases hg)⟩
  have H := cr_856 M (ρ 0) (hB _ List.mem_cons_self) hG
  rcases H with H | H
  · skip
    obtain ⟨f0, f1, -⟩ := H
    exact ⟨_, List.mem_cons_self, ρ, fun _ _ => rfl, okM_n, okB_n, (okF_c (by show 0 ≤ 0 + ((-1) * ρ 0 + 0); omega) (okF_c (by show 0 ≤ 0 + (1 * ρ 0 + 0); omega) okF_n))⟩
  · skip
    obtain ⟨f0, f1, -⟩ := H
    exact ⟨_, (List.mem_cons_of_mem _ List.mem_cons_self), ρ, fun _ _ => rfl, okM_n, okB_n, (okF_c (by show 0 ≤ 1 + ((-1) * ρ 0 + 0); omega) (okF_c (by show 0 ≤ (-1) + (1 * ρ 0 + 0); omega) okF_n))⟩
