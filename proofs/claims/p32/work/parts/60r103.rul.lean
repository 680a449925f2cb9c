-- fi0_15
theorem cr_300 (M : pM)  (hG : gI M) : (HP 136 (0 : Int) (-1 : Int) M ∧ True) := by
  exact ⟨Eq.mpr hp_136 ⟨by decide, fun i hi => by omega⟩, trivial⟩
theorem rul_300 : Rul r_300 := by
  refine ⟨fun _ ρ M hm hB hF hG => ?_, fun gi gv hg => (by cases hg)⟩
  have H := cr_300 M hG
  obtain ⟨k0, -⟩ := H
  exact ⟨_, List.mem_cons_self, ρ, fun _ _ => rfl, (okM_c (pvp 136 (by show 0 + 0 = _; omega) (by show (-1) + 0 = _; omega) k0) okM_n), okB_n, okF_n⟩
-- fiw_15
theorem cr_301 (M : pM) (s0 : Int) (b0 : 0 ≤ s0 ∧ s0 ≤ 5) (m0 : HP 136 (s0) (-1 : Int) M) (hG : gI M) : (HP 136 (s0 + 1) (-1 : Int) (st M 15 (s0).toNat (-1 : Int)) ∧ True) := by
  refine ⟨Eq.mpr hp_136 ⟨by omega, fun i hi => ?_⟩, trivial⟩
  rw [cw0]
  by_cases e : i = (s0).toNat
  · rw [if_pos e]
  · rw [if_neg e]; exact (Eq.mp hp_136 m0).2 i (by omega)
theorem rul_301 : Rul r_301 := by
  refine ⟨fun h => (by cases h), fun gi gv hg ρ M hm hB hF hG => ?_⟩
  obtain ⟨g1, g2⟩ := List.cons.inj (show ([aI ((0 : Int), ([(0, 1)] : List (Nat × Int))), aI (((-1) : Int), ([] : List (Nat × Int)))] : List av) = [.inl gi, .inl gv] from hg)
  obtain ⟨g2, -⟩ := List.cons.inj g2
  cases g1
  cases g2
  have ei : ev ρ ((0 : Int), ([(0, 1)] : List (Nat × Int))) = ((ρ 0)) := by show 0 + (1 * ρ 0 + 0) = _; omega
  have ew : ev ρ (((-1) : Int), ([] : List (Nat × Int))) = (-1 : Int) := by show (-1) + 0 = _; omega
  rw [show (st M (ctj r_301) (ev ρ ((0 : Int), ([(0, 1)] : List (Nat × Int)))).toNat (ev ρ (((-1) : Int), ([] : List (Nat × Int))))) = (st M 15 ((ρ 0)).toNat (-1 : Int)) from by rw [ei, ew]; rfl]
  have H := cr_301 M (ρ 0) (hB _ List.mem_cons_self) (cvp 136 (x' := ((ρ 0))) (y' := (-1 : Int)) (by show 0 + (1 * ρ 0 + 0) = _; omega) (by show (-1) + 0 = _; omega) (hm _ List.mem_cons_self)) hG
  obtain ⟨k0, -⟩ := H
  exact ⟨_, List.mem_cons_self, ρ, fun _ _ => rfl, (okM_c (pvp 136 (by show 1 + (1 * ρ 0 + 0) = _; omega) (by show (-1) + 0 = _; omega) k0) okM_n), okB_n, okF_n⟩
-- fix_15
theorem cr_302 (M : pM) (s0 : Int) (b0 : 0 ≤ s0 ∧ s0 ≤ 6) (m0 : HP 136 (s0) (-1 : Int) M) (f0 : 0 ≤ (s0 - 6)) (hG : gI M) : (HP 136 (6 : Int) (-1 : Int) M ∧ True) := by
  exact ⟨Eq.mpr hp_136 ⟨by decide, fun i hi => (Eq.mp hp_136 m0).2 i (by omega)⟩, trivial⟩
theorem rul_302 : Rul r_302 := by
  refine ⟨fun _ ρ M hm hB hF hG => ?_, fun gi gv hg => (by cases hg)⟩
  have H := cr_302 M (ρ 0) (hB _ List.mem_cons_self) (cvp 136 (x' := ((ρ 0))) (y' := (-1 : Int)) (by show 0 + (1 * ρ 0 + 0) = _; omega) (by show (-1) + 0 = _; omega) (hm _ List.mem_cons_self)) (by have h := hF _ List.mem_cons_self; have h : 0 ≤ (-6) + (1 * ρ 0 + 0) := h; omega) hG
  obtain ⟨k0, -⟩ := H
  exact ⟨_, List.mem_cons_self, ρ, fun _ _ => rfl, (okM_c (pvp 136 (by show 6 + 0 = _; omega) (by show (-1) + 0 = _; omega) k0) okM_n), okB_n, okF_n⟩
-- fi0_16
theorem cr_303 (M : pM)  (hG : gI M) : (HP 137 (0 : Int) (-1 : Int) M ∧ True) := by
  exact ⟨Eq.mpr hp_137 ⟨by decide, fun i hi => by omega⟩, trivial⟩
theorem rul_303 : Rul r_303 := by
  refine ⟨fun _ ρ M hm hB hF hG => ?_, fun gi gv hg => (by cases hg)⟩
  have H := cr_303 M hG
  obtain ⟨k0, -⟩ := H
  exact ⟨_, List.mem_cons_self, ρ, fun _ _ => rfl, (okM_c (pvp 137 (by show 0 + 0 = _; omega) (by show (-1) + 0 = _; omega) k0) okM_n), okB_n, okF_n⟩
-- fiw_16
theorem cr_304 (M : pM) (s0 : Int) (b0 : 0 ≤ s0 ∧ s0 ≤ 5) (m0 : HP 137 (s0) (-1 : Int) M) (hG : gI M) : (HP 137 (s0 + 1) (-1 : Int) (st M 16 (s0).toNat (-1 : Int)) ∧ True) := by
  refine ⟨Eq.mpr hp_137 ⟨by omega, fun i hi => ?_⟩, trivial⟩
  rw [cw0]
  by_cases e : i = (s0).toNat
  · rw [if_pos e]
  · rw [if_neg e]; exact (Eq.mp hp_137 m0).2 i (by omega)
theorem rul_304 : Rul r_304 := by
  refine ⟨fun h => (by cases h), fun gi gv hg ρ M hm hB hF hG => ?_⟩
  obtain ⟨g1, g2⟩ := List.cons.inj (show ([aI ((0 : Int), ([(0, 1)] : List (Nat × Int))), aI (((-1) : Int), ([] : List (Nat × Int)))] : List av) = [.inl gi, .inl gv] from hg)
  obtain ⟨g2, -⟩ := List.cons.inj g2
  cases g1
  cases g2
  have ei : ev ρ ((0 : Int), ([(0, 1)] : List (Nat × Int))) = ((ρ 0)) := by show 0 + (1 * ρ 0 + 0) = _; omega
  have ew : ev ρ (((-1) : Int), ([] : List (Nat × Int))) = (-1 : Int) := by show (-1) + 0 = _; omega
  rw [show (st M (ctj r_304) (ev ρ ((0 : Int), ([(0, 1)] : List (Nat × Int)))).toNat (ev ρ (((-1) : Int), ([] : List (Nat × Int))))) = (st M 16 ((ρ 0)).toNat (-1 : Int)) from by rw [ei, ew]; rfl]
  have H := cr_304 M (ρ 0) (hB _ List.mem_cons_self) (cvp 137 (x' := ((ρ 0))) (y' := (-1 : Int)) (by show 0 + (1 * ρ 0 + 0) = _; omega) (by show (-1) + 0 = _; omega) (hm _ List.mem_cons_self)) hG
  obtain ⟨k0, -⟩ := H
  exact ⟨_, List.mem_cons_self, ρ, fun _ _ => rfl, (okM_c (pvp 137 (by show 1 + (1 * ρ 0 + 0) = _; omega) (by show (-1) + 0 = _; omega) k0) okM_n), okB_n, okF_n⟩
-- fix_16
theorem cr_305 (M : pM) (s0 : Int) (b0 : 0 ≤ s0 ∧ s0 ≤ 6) (m0 : HP 137 (s0) (-1 : Int) M) (f0 : 0 ≤ (s0 - 6)) (hG : gI M) : (HP 137 (6 : Int) (-1 : Int) M ∧ True) := by
  exact ⟨Eq.mpr hp_137 ⟨by decide, fun i hi => (Eq.mp hp_137 m0).2 i (by omega)⟩, trivial⟩
theorem rul_305 : Rul r_305 := by
  refine ⟨fun _ ρ M hm hB hF hG => ?_, fun gi gv hg => (by cases hg)⟩
  have H := cr_305 M (ρ 0) (hB _ List.mem_cons_self) (cvp 137 (x' := ((ρ 0))) (y' := (-1 : Int)) (by show 0 + (1 * ρ 0 + 0) = _; omega) (by show (-1) + 0 = _; omega) (hm _ List.mem_cons_self)) (by have h := hF _ List.mem_cons_self; have h : 0 ≤ (-6) + (1 * ρ 0 + 0) := h; omega) hG
  obtain ⟨k0, -⟩ := H
  exact ⟨_, List.mem_cons_self, ρ, fun _ _ => rfl, (okM_c (pvp 137 (by show 6 + 0 = _; omega) (by show (-1) + 0 = _; omega) k0) okM_n), okB_n, okF_n⟩
-- ca0_1
theorem cr_306 (M : pM) (m0 : HP 134 (64 : Int) (0 : Int) M) (m1 : HP 135 (48 : Int) (0 : Int) M) (m2 : HP 136 (6 : Int) (-1 : Int) M) (m3 : HP 137 (6 : Int) (-1 : Int) M) (hG : gI M) : (HP 55 (0 : Int) (0 : Int) M ∧ HP 71 (0 : Int) (0 : Int) M ∧ HP 72 (0 : Int) (0 : Int) M ∧ HP 94 (0 : Int) (0 : Int) M ∧ True) := by
  have q0 : qat (tm M) 0 (0, qA0) := ⟨0, by decide, by decide, rfl⟩
  refine ⟨Eq.mpr hp_55 ⟨(0, qA0), q0, ⟨by decide, by decide, by decide, by decide⟩, ?_⟩, Eq.mpr hp_71 ⟨(0, qA0), q0, fun i hi => (qb4_0 i hi).trans rfl⟩, Eq.mpr hp_72 ⟨(0, qA0), q0, fun i hi => (qb4_0 i hi).trans rfl⟩, Eq.mpr hp_94 ⟨(0, qA0), q0, fun i hi => (qb8_0 i hi).trans rfl⟩, trivial⟩
  refine ⟨fun i hi => (Eq.mp hp_134 m0).2 i (by omega), fun i hi => (Eq.mp hp_135 m1).2 i (by omega), fun i hi => (Eq.mp hp_136 m2).2 i (by omega), fun i hi => by show (-1 : Int) ≤ -1 ∧ (0 : Int) ≤ 0; omega, fun i hi => (Eq.mp hp_137 m3).2 i (by omega), fun i hi hw => ?_, fun i hi hw => ?_, fun i hi hw => ?_, fun i j hi hj hw => ?_⟩
  all_goals (have hw : (i : Int) < 0 := hw; omega)
theorem rul_306 : Rul r_306 := by
  refine ⟨fun _ ρ M hm hB hF hG => ?_, fun gi gv hg => (by cases hg)⟩
  have H := cr_306 M (cvp 134 (x' := (64 : Int)) (y' := (0 : Int)) (by show 64 + 0 = _; omega) (by show 0 + 0 = _; omega) (hm _ List.mem_cons_self)) (cvp 135 (x' := (48 : Int)) (y' := (0 : Int)) (by show 48 + 0 = _; omega) (by show 0 + 0 = _; omega) (hm _ (List.mem_cons_of_mem _ List.mem_cons_self))) (cvp 136 (x' := (6 : Int)) (y' := (-1 : Int)) (by show 6 + 0 = _; omega) (by show (-1) + 0 = _; omega) (hm _ (List.mem_cons_of_mem _ (List.mem_cons_of_mem _ List.mem_cons_self)))) (cvp 137 (x' := (6 : Int)) (y' := (-1 : Int)) (by show 6 + 0 = _; omega) (by show (-1) + 0 = _; omega) (hm _ (List.mem_cons_of_mem _ (List.mem_cons_of_mem _ (List.mem_cons_of_mem _ List.mem_cons_self))))) hG
  obtain ⟨k0, k1, k2, k3, -⟩ := H
  exact ⟨_, List.mem_cons_self, ρ, fun _ _ => rfl, (okM_c (pvp 55 (by show 0 + 0 = _; omega) (by show 0 + 0 = _; omega) k0) (okM_c (pvp 71 (by show 0 + 0 = _; omega) (by show 0 + 0 = _; omega) k1) (okM_c (pvp 72 (by show 0 + 0 = _; omega) (by show 0 + 0 = _; omega) k2) (okM_c (pvp 94 (by show 0 + 0 = _; omega) (by show 0 + 0 = _; omega) k3) okM_n)))), okB_n, okF_n⟩
-- cg0_0
theorem cr_307 (M : pM) (s0 s1 s2 s3 s4 s5 : Int) (b0 : 0 ≤ s0 ∧ s0 ≤ 1900) (b1 : 0 ≤ s1 ∧ s1 ≤ 950) (b2 : 0 ≤ s2 ∧ s2 ≤ 12) (b3 : 0 ≤ s3 ∧ s3 ≤ 20) (b4 : 0 ≤ s4 ∧ s4 ≤ 4) (b5 : 0 ≤ s5 ∧ s5 ≤ 7) (m0 : HP 54 (4096 * s0 + s1) (s2 + 32 * s3 + 1024 * s4) M) (hG : gI M) : (HP 81 (4096 * s0 + s1) (s2 + 32 * s3 + 1024 * s4 + 131072 * s5) M ∧ True) := by
  exact ⟨Eq.mpr hp_81 (k_cg0 (u := s5.toNat) (Eq.mp hp_54 m0) (by omega)), trivial⟩
theorem rul_307 : Rul r_307 := by
  refine ⟨fun _ ρ M hm hB hF hG => ?_, fun gi gv hg => (by cases hg)⟩
  have H := cr_307 M (ρ 0) (ρ 1) (ρ 2) (ρ 3) (ρ 4) (ρ 5) (hB _ List.mem_cons_self) (hB _ (List.mem_cons_of_mem _ List.mem_cons_self)) (hB _ (List.mem_cons_of_mem _ (List.mem_cons_of_mem _ List.mem_cons_self))) (hB _ (List.mem_cons_of_mem _ (List.mem_cons_of_mem _ (List.mem_cons_of_mem _ List.mem_cons_self)))) (hB _ (List.mem_cons_of_mem _ (List.mem_cons_of_mem _ (List.mem_cons_of_mem _ (List.mem_cons_of_mem _ List.mem_cons_self))))) (hB _ (List.mem_cons_of_mem _ (List.mem_cons_of_mem _ (List.mem_cons_of_mem _ (List.mem_cons_of_mem _ (List.mem_cons_of_mem _ List.mem_cons_self)))))) (cvp 54 (x' := (4096 * (ρ 0) + (ρ 1))) (y' := ((ρ 2) + 32 * (ρ 3) + 1024 * (ρ 4))) (by show 0 + (4096 * ρ 0 + (1 * ρ 1 + 0)) = _; omega) (by show 0 + (1 * ρ 2 + (32 * ρ 3 + (1024 * ρ 4 + 0))) = _; omega) (hm _ List.mem_cons_self)) hG
  obtain ⟨k0, -⟩ := H
  exact ⟨_, List.mem_cons_self, ρ, fun _ _ => rfl, (okM_c (pvp 81 (by show 0 + (4096 * ρ 0 + (1 * ρ 1 + 0)) = _; omega) (by show 0 + (1 * ρ 2 + (32 * ρ 3 + (1024 * ρ 4 + (131072 * ρ 5 + 0)))) = _; omega) k0) okM_n), okB_n, okF_n⟩
-- cgw_0
theorem cr_308 (M : pM) (s0 s1 s2 s3 s4 s5 s6 s7 s8 s9 : Int) (b0 : 0 ≤ s0 ∧ s0 ≤ 1900) (b1 : 0 ≤ s1 ∧ s1 ≤ 950) (b2 : 0 ≤ s2 ∧ s2 ≤ 1900) (b3 : 0 ≤ s3 ∧ s3 ≤ 12) (b4 : 0 ≤ s4 ∧ s4 ≤ 20) (b5 : 0 ≤ s5 ∧ s5 ≤ 4) (b6 : 0 ≤ s6 ∧ s6 ≤ 7) (b7 : 0 ≤ s7 ∧ s7 ≤ 7) (b8 : 0 ≤ s8 ∧ s8 ≤ 1900) (b9 : 97 ≤ s9 ∧ s9 ≤ 104) (m0 : HP 81 (4096 * s0 + s1) (s3 + 32 * s4 + 1024 * s5 + 8192 * s6 + 131072 * s7) M) (m1 : HP 53 (4096 * s0 + s1) (256 * s2 + 2) M) (m2 : HP 45 (s2) (s8) M) (m3 : (0 ≤ (s6 + s8) ∧ M 1 (s6 + s8).toNat = (s9))) (hG : gI M) : (HP 81 (4096 * s0 + s1) (s3 + 32 * s4 + 1024 * s5 + 8192 * s6 + 131072 * s7 + 8192) (st M 4 (s6 + 8 * s7).toNat (s9 - 97)) ∧ True) := by
  have hv : ∀ s, qat (tm M) (4096 * s0 + s1) s → (s9 - 97) = qlt (tm M) s.1 2 s6.toNat - 97 := by
    intro s hs
    obtain ⟨S2, hS2, hE2⟩ := ex_o (K := 0) (j := 1) (a := s2) (Eq.mp hp_53 m1) ⟨by omega, by omega, by decide, by decide⟩
    have e2 := qat_u hS2 hs
    subst e2
    have ha2 : s2 = (qps (tm M) s.1 2 : Int) := hE2.2.2.2.2
    have g1 := (q45 m2).2
    have hr := rd1 m3 (by omega)
    unfold qlt
    rw [show qps (tm M) s.1 2 = s2.toNat by omega, show tS (tm M) s2.toNat + s6.toNat = (s6 + s8).toNat by omega, hr]
  have hq : qRc 0 (st M 4 (8 * s7.toNat + s6.toNat) (s9 - 97)) = qU (qRc 0 M) 0 (8 * s7.toNat + s6.toNat) (s9 - 97) := qRc_st (b := 0) (k := 0)
  have ht : tm (st M 4 (8 * s7.toNat + s6.toNat) (s9 - 97)) = tm M := tm_st (by decide) (by decide)
  rw [show (s6 + 8 * s7).toNat = 8 * s7.toNat + s6.toNat by omega]
  refine ⟨Eq.mpr hp_81 ?_, trivial⟩
  rw [ht, hq]
  exact k_cgw (k := s6.toNat) (u := s7.toNat) (w := s3) (r := s4) (g := s5) (Eq.mp hp_81 m0) (by omega) ⟨⟨by omega, by omega⟩, ⟨by omega, by omega⟩, by omega, by omega⟩ (by omega) (by omega) hv (by omega)
theorem rul_308 : Rul r_308 := by
  refine ⟨fun h => (by cases h), fun gi gv hg ρ M hm hB hF hG => ?_⟩
  obtain ⟨g1, g2⟩ := List.cons.inj (show ([aI ((0 : Int), ([(6, 1), (7, 8)] : List (Nat × Int))), aI (((-97) : Int), ([(9, 1)] : List (Nat × Int)))] : List av) = [.inl gi, .inl gv] from hg)
  obtain ⟨g2, -⟩ := List.cons.inj g2
  cases g1
  cases g2
  have ei : ev ρ ((0 : Int), ([(6, 1), (7, 8)] : List (Nat × Int))) = ((ρ 6) + 8 * (ρ 7)) := by show 0 + (1 * ρ 6 + (8 * ρ 7 + 0)) = _; omega
  have ew : ev ρ (((-97) : Int), ([(9, 1)] : List (Nat × Int))) = ((ρ 9) - 97) := by show (-97) + (1 * ρ 9 + 0) = _; omega
  rw [show (st M (ctj r_308) (ev ρ ((0 : Int), ([(6, 1), (7, 8)] : List (Nat × Int)))).toNat (ev ρ (((-97) : Int), ([(9, 1)] : List (Nat × Int))))) = (st M 4 ((ρ 6) + 8 * (ρ 7)).toNat ((ρ 9) - 97)) from by rw [ei, ew]; rfl]
  have H := cr_308 M (ρ 0) (ρ 1) (ρ 2) (ρ 3) (ρ 4) (ρ 5) (ρ 6) (ρ 7) (ρ 8) (ρ 9) (hB _ List.mem_cons_self) (hB _ (List.mem_cons_of_mem _ List.mem_cons_self)) (hB _ (List.mem_cons_of_mem _ (List.mem_cons_of_mem _ List.mem_cons_self))) (hB _ (List.mem_cons_of_mem _ (List.mem_cons_of_mem _ (List.mem_cons_of_mem _ List.mem_cons_self)))) (hB _ (List.mem_cons_of_mem _ (List.mem_cons_of_mem _ (List.mem_cons_of_mem _ (List.mem_cons_of_mem _ List.mem_cons_self))))) (hB _ (List.mem_cons_of_mem _ (List.mem_cons_of_mem _ (List.mem_cons_of_mem _ (List.mem_cons_of_mem _ (List.mem_cons_of_mem _ List.mem_cons_self)))))) (hB _ (List.mem_cons_of_mem _ (List.mem_cons_of_mem _ (List.mem_cons_of_mem _ (List.mem_cons_of_mem _ (List.mem_cons_of_mem _ (List.mem_cons_of_mem _ List.mem_cons_self))))))) (hB _ (List.mem_cons_of_mem _ (List.mem_cons_of_mem _ (List.mem_cons_of_mem _ (List.mem_cons_of_mem _ (List.mem_cons_of_mem _ (List.mem_cons_of_mem _ (List.mem_cons_of_mem _ List.mem_cons_self)))))))) (hB _ (List.mem_cons_of_mem _ (List.mem_cons_of_mem _ (List.mem_cons_of_mem _ (List.mem_cons_of_mem _ (List.mem_cons_of_mem _ (List.mem_cons_of_mem _ (List.mem_cons_of_mem _ (List.mem_cons_of_mem _ List.mem_cons_self))))))))) (hB _ (List.mem_cons_of_mem _ (List.mem_cons_of_mem _ (List.mem_cons_of_mem _ (List.mem_cons_of_mem _ (List.mem_cons_of_mem _ (List.mem_cons_of_mem _ (List.mem_cons_of_mem _ (List.mem_cons_of_mem _ (List.mem_cons_of_mem _ List.mem_cons_self)))))))))) (cvp 81 (x' := (4096 * (ρ 0) + (ρ 1))) (y' := ((ρ 3) + 32 * (ρ 4) + 1024 * (ρ 5) + 8192 * (ρ 6) + 131072 * (ρ 7))) (by show 0 + (4096 * ρ 0 + (1 * ρ 1 + 0)) = _; omega) (by show 0 + (1 * ρ 3 + (32 * ρ 4 + (1024 * ρ 5 + (8192 * ρ 6 + (131072 * ρ 7 + 0))))) = _; omega) (hm _ List.mem_cons_self)) (cvp 53 (x' := (4096 * (ρ 0) + (ρ 1))) (y' := (256 * (ρ 2) + 2)) (by show 0 + (4096 * ρ 0 + (1 * ρ 1 + 0)) = _; omega) (by show 2 + (256 * ρ 2 + 0) = _; omega) (hm _ (List.mem_cons_of_mem _ List.mem_cons_self))) (cvp 45 (x' := ((ρ 2))) (y' := ((ρ 8))) (by show 0 + (1 * ρ 2 + 0) = _; omega) (by show 0 + (1 * ρ 8 + 0) = _; omega) (hm _ (List.mem_cons_of_mem _ (List.mem_cons_of_mem _ List.mem_cons_self)))) (cvm (c := 1) (by decide) (x' := ((ρ 6) + (ρ 8))) (y' := ((ρ 9))) (by show 0 + (1 * ρ 6 + (1 * ρ 8 + 0)) = _; omega) (by show 0 + (1 * ρ 9 + 0) = _; omega) (hm _ (List.mem_cons_of_mem _ (List.mem_cons_of_mem _ (List.mem_cons_of_mem _ List.mem_cons_self))))) hG
  obtain ⟨k0, -⟩ := H
  exact ⟨_, List.mem_cons_self, ρ, fun _ _ => rfl, (okM_c (pvp 81 (by show 0 + (4096 * ρ 0 + (1 * ρ 1 + 0)) = _; omega) (by show 8192 + (1 * ρ 3 + (32 * ρ 4 + (1024 * ρ 5 + (8192 * ρ 6 + (131072 * ρ 7 + 0))))) = _; omega) k0) okM_n), okB_n, okF_n⟩
-- cge_0
theorem cr_309 (M : pM) (s0 s1 s2 s3 s4 s5 s6 : Int) (b0 : 0 ≤ s0 ∧ s0 ≤ 1900) (b1 : 0 ≤ s1 ∧ s1 ≤ 950) (b2 : 0 ≤ s2 ∧ s2 ≤ 1900) (b3 : 0 ≤ s3 ∧ s3 ≤ 12) (b4 : 0 ≤ s4 ∧ s4 ≤ 20) (b5 : 0 ≤ s5 ∧ s5 ≤ 4) (b6 : 0 ≤ s6 ∧ s6 ≤ 7) (m0 : HP 81 (4096 * s0 + s1) (s3 + 32 * s4 + 1024 * s5 + 131072 * s6 + 65536) M) (m1 : HP 53 (4096 * s0 + s1) (256 * s2 + 3) M) (m2 : HP 79 (16 * s0 + 1) (s6) M) (hG : gI M) : (HP 56 (4096 * s0 + s1) (s3 + 32 * s4 + 1024 * s5) M ∧ True) := by
  have hv := q79 (P := s0) (i := 1) m2 ⟨by omega, by decide⟩ (by omega)
  exact ⟨Eq.mpr hp_56 (k_cge (u := s6.toNat) (w := s3) (r := s4) (g := s5) (P := s0) (l := s1) (Eq.mp hp_81 m0) (by omega) ⟨⟨by omega, by omega⟩, ⟨by omega, by omega⟩, by omega, by omega⟩ (ex_o (K := 0) (j := 2) (a := s2) (Eq.mp hp_53 m1) ⟨by omega, by omega, by decide, by decide⟩) ⟨by omega, by omega, by omega⟩ (by omega) (by omega)), trivial⟩
theorem rul_309 : Rul r_309 := by
  refine ⟨fun _ ρ M hm hB hF hG => ?_, fun gi gv hg => (by cases hg)⟩
  have H := cr_309 M (ρ 0) (ρ 1) (ρ 2) (ρ 3) (ρ 4) (ρ 5) (ρ 6) (hB _ List.mem_cons_self) (hB _ (List.mem_cons_of_mem _ List.mem_cons_self)) (hB _ (List.mem_cons_of_mem _ (List.mem_cons_of_mem _ List.mem_cons_self))) (hB _ (List.mem_cons_of_mem _ (List.mem_cons_of_mem _ (List.mem_cons_of_mem _ List.mem_cons_self)))) (hB _ (List.mem_cons_of_mem _ (List.mem_cons_of_mem _ (List.mem_cons_of_mem _ (List.mem_cons_of_mem _ List.mem_cons_self))))) (hB _ (List.mem_cons_of_mem _ (List.mem_cons_of_mem _ (List.mem_cons_of_mem _ (List.mem_cons_of_mem _ (List.mem_cons_of_mem _ List.mem_cons_self)))))) (hB _ (List.mem_cons_of_mem _ (List.mem_cons_of_mem _ (List.mem_cons_of_mem _ (List.mem_cons_of_mem _ (List.mem_cons_of_mem _ (List.mem_cons_of_mem _ List.mem_cons_self))))))) (cvp 81 (x' := (4096 * (ρ 0) + (ρ 1))) (y' := ((ρ 3) + 32 * (ρ 4) + 1024 * (ρ 5) + 131072 * (ρ 6) + 65536)) (by show 0 + (4096 * ρ 0 + (1 * ρ 1 + 0)) = _; omega) (by show 65536 + (1 * ρ 3 + (32 * ρ 4 + (1024 * ρ 5 + (131072 * ρ 6 + 0)))) = _; omega) (hm _ List.mem_cons_self)) (cvp 53 (x' := (4096 * (ρ 0) + (ρ 1))) (y' := (256 * (ρ 2) + 3)) (by show 0 + (4096 * ρ 0 + (1 * ρ 1 + 0)) = _; omega) (by show 3 + (256 * ρ 2 + 0) = _; omega) (hm _ (List.mem_cons_of_mem _ List.mem_cons_self))) (cvp 79 (x' := (16 * (ρ 0) + 1)) (y' := ((ρ 6))) (by show 1 + (16 * ρ 0 + 0) = _; omega) (by show 0 + (1 * ρ 6 + 0) = _; omega) (hm _ (List.mem_cons_of_mem _ (List.mem_cons_of_mem _ List.mem_cons_self)))) hG
  obtain ⟨k0, -⟩ := H
  exact ⟨_, List.mem_cons_self, ρ, fun _ _ => rfl, (okM_c (pvp 56 (by show 0 + (4096 * ρ 0 + (1 * ρ 1 + 0)) = _; omega) (by show 0 + (1 * ρ 3 + (32 * ρ 4 + (1024 * ρ 5 + 0))) = _; omega) k0) okM_n), okB_n, okF_n⟩
-- cl0_0
theorem cr_310 (M : pM) (s0 s1 s2 s3 s4 s5 : Int) (b0 : 0 ≤ s0 ∧ s0 ≤ 1900) (b1 : 0 ≤ s1 ∧ s1 ≤ 950) (b2 : 0 ≤ s2 ∧ s2 ≤ 12) (b3 : 0 ≤ s3 ∧ s3 ≤ 20) (b4 : 0 ≤ s4 ∧ s4 ≤ 4) (b5 : 0 ≤ s5 ∧ s5 ≤ 7) (m0 : HP 54 (4096 * s0 + s1) (s2 + 32 * s3 + 1024 * s4) M) (m1 : HP 87 (s0) (s5) M) (hG : gI M) : (HP 83 (4096 * s0 + s1) (s2 + 32 * s3 + 1024 * s4 + 131072 * s5) M ∧ True) := by
  exact ⟨Eq.mpr hp_83 (k_cl0 (u := s5.toNat) (Eq.mp hp_54 m0) (by omega)), trivial⟩
theorem rul_310 : Rul r_310 := by
  refine ⟨fun _ ρ M hm hB hF hG => ?_, fun gi gv hg => (by cases hg)⟩
  have H := cr_310 M (ρ 0) (ρ 1) (ρ 2) (ρ 3) (ρ 4) (ρ 5) (hB _ List.mem_cons_self) (hB _ (List.mem_cons_of_mem _ List.mem_cons_self)) (hB _ (List.mem_cons_of_mem _ (List.mem_cons_of_mem _ List.mem_cons_self))) (hB _ (List.mem_cons_of_mem _ (List.mem_cons_of_mem _ (List.mem_cons_of_mem _ List.mem_cons_self)))) (hB _ (List.mem_cons_of_mem _ (List.mem_cons_of_mem _ (List.mem_cons_of_mem _ (List.mem_cons_of_mem _ List.mem_cons_self))))) (hB _ (List.mem_cons_of_mem _ (List.mem_cons_of_mem _ (List.mem_cons_of_mem _ (List.mem_cons_of_mem _ (List.mem_cons_of_mem _ List.mem_cons_self)))))) (cvp 54 (x' := (4096 * (ρ 0) + (ρ 1))) (y' := ((ρ 2) + 32 * (ρ 3) + 1024 * (ρ 4))) (by show 0 + (4096 * ρ 0 + (1 * ρ 1 + 0)) = _; omega) (by show 0 + (1 * ρ 2 + (32 * ρ 3 + (1024 * ρ 4 + 0))) = _; omega) (hm _ List.mem_cons_self)) (cvp 87 (x' := ((ρ 0))) (y' := ((ρ 5))) (by show 0 + (1 * ρ 0 + 0) = _; omega) (by show 0 + (1 * ρ 5 + 0) = _; omega) (hm _ (List.mem_cons_of_mem _ List.mem_cons_self))) hG
  obtain ⟨k0, -⟩ := H
  exact ⟨_, List.mem_cons_self, ρ, fun _ _ => rfl, (okM_c (pvp 83 (by show 0 + (4096 * ρ 0 + (1 * ρ 1 + 0)) = _; omega) (by show 0 + (1 * ρ 2 + (32 * ρ 3 + (1024 * ρ 4 + (131072 * ρ 5 + 0)))) = _; omega) k0) okM_n), okB_n, okF_n⟩
-- clw_0
theorem cr_311 (M : pM) (s0 s1 s2 s3 s4 s5 s6 s7 : Int) (b0 : 0 ≤ s0 ∧ s0 ≤ 1900) (b1 : 0 ≤ s1 ∧ s1 ≤ 950) (b2 : 0 ≤ s2 ∧ s2 ≤ 12) (b3 : 0 ≤ s3 ∧ s3 ≤ 20) (b4 : 0 ≤ s4 ∧ s4 ≤ 4) (b5 : 0 ≤ s5 ∧ s5 ≤ 7) (b6 : 0 ≤ s6 ∧ s6 ≤ 5) (b7 : 0 ≤ s7 ∧ s7 ≤ 20) (m0 : HP 83 (4096 * s0 + s1) (s2 + 32 * s3 + 1024 * s4 + 131072 * s5 + 8192 * s6) M) (m1 : HP 87 (s0) (s5) M) (m2 : HP 79 (16 * s0 + s6 + 2) (s7) M) (hG : gI M) : (HP 83 (4096 * s0 + s1) (s2 + 32 * s3 + 1024 * s4 + 131072 * s5 + 8192 * s6 + 8192) (st M 5 (6 * s5 + s6).toNat (s7)) ∧ True) := by
  have hv := q79 (P := s0) (i := 2 + s6.toNat) m2 ⟨by omega, by omega⟩ (by omega)
  have hq : qRc 0 (st M 5 (6 * s5.toNat + s6.toNat) (s7)) = qU (qRc 0 M) 1 (6 * s5.toNat + s6.toNat) (s7) := qRc_st (b := 0) (k := 1)
  have ht : tm (st M 5 (6 * s5.toNat + s6.toNat) (s7)) = tm M := tm_st (by decide) (by decide)
  rw [show (6 * s5 + s6).toNat = 6 * s5.toNat + s6.toNat by omega]
  refine ⟨Eq.mpr hp_83 ?_, trivial⟩
  rw [ht, hq]
  exact k_clw (k := s6.toNat) (u := s5.toNat) (w := s2) (r := s3) (g := s4) (P := s0) (l := s1) (Eq.mp hp_83 m0) (by omega) ⟨⟨by omega, by omega⟩, ⟨by omega, by omega⟩, by omega, by omega⟩ (by omega) (by omega) ⟨by omega, by omega, by omega⟩ hv (by omega)
theorem rul_311 : Rul r_311 := by
  refine ⟨fun h => (by cases h), fun gi gv hg ρ M hm hB hF hG => ?_⟩
  obtain ⟨g1, g2⟩ := List.cons.inj (show ([aI ((0 : Int), ([(5, 6), (6, 1)] : List (Nat × Int))), aI ((0 : Int), ([(7, 1)] : List (Nat × Int)))] : List av) = [.inl gi, .inl gv] from hg)
  obtain ⟨g2, -⟩ := List.cons.inj g2
  cases g1
  cases g2
  have ei : ev ρ ((0 : Int), ([(5, 6), (6, 1)] : List (Nat × Int))) = (6 * (ρ 5) + (ρ 6)) := by show 0 + (6 * ρ 5 + (1 * ρ 6 + 0)) = _; omega
  have ew : ev ρ ((0 : Int), ([(7, 1)] : List (Nat × Int))) = ((ρ 7)) := by show 0 + (1 * ρ 7 + 0) = _; omega
  rw [show (st M (ctj r_311) (ev ρ ((0 : Int), ([(5, 6), (6, 1)] : List (Nat × Int)))).toNat (ev ρ ((0 : Int), ([(7, 1)] : List (Nat × Int))))) = (st M 5 (6 * (ρ 5) + (ρ 6)).toNat ((ρ 7))) from by rw [ei, ew]; rfl]
  have H := cr_311 M (ρ 0) (ρ 1) (ρ 2) (ρ 3) (ρ 4) (ρ 5) (ρ 6) (ρ 7) (hB _ List.mem_cons_self) (hB _ (List.mem_cons_of_mem _ List.mem_cons_self)) (hB _ (List.mem_cons_of_mem _ (List.mem_cons_of_mem _ List.mem_cons_self))) (hB _ (List.mem_cons_of_mem _ (List.mem_cons_of_mem _ (List.mem_cons_of_mem _ List.mem_cons_self)))) (hB _ (List.mem_cons_of_mem _ (List.mem_cons_of_mem _ (List.mem_cons_of_mem _ (List.mem_cons_of_mem _ List.mem_cons_self))))) (hB _ (List.mem_cons_of_mem _ (List.mem_cons_of_mem _ (List.mem_cons_of_mem _ (List.mem_cons_of_mem _ (List.mem_cons_of_mem _ List.mem_cons_self)))))) (hB _ (List.mem_cons_of_mem _ (List.mem_cons_of_mem _ (List.mem_cons_of_mem _ (List.mem_cons_of_mem _ (List.mem_cons_of_mem _ (List.mem_cons_of_mem _ List.mem_cons_self))))))) (hB _ (List.mem_cons_of_mem _ (List.mem_cons_of_mem _ (List.mem_cons_of_mem _ (List.mem_cons_of_mem _ (List.mem_cons_of_mem _ (List.mem_cons_of_mem _ (List.mem_cons_of_mem _ List.mem_cons_self)))))))) (cvp 83 (x' := (4096 * (ρ 0) + (ρ 1))) (y' := ((ρ 2) + 32 * (ρ 3) + 1024 * (ρ 4) + 131072 * (ρ 5) + 8192 * (ρ 6))) (by show 0 + (4096 * ρ 0 + (1 * ρ 1 + 0)) = _; omega) (by show 0 + (1 * ρ 2 + (32 * ρ 3 + (1024 * ρ 4 + (131072 * ρ 5 + (8192 * ρ 6 + 0))))) = _; omega) (hm _ List.mem_cons_self)) (cvp 87 (x' := ((ρ 0))) (y' := ((ρ 5))) (by show 0 + (1 * ρ 0 + 0) = _; omega) (by show 0 + (1 * ρ 5 + 0) = _; omega) (hm _ (List.mem_cons_of_mem _ List.mem_cons_self))) (cvp 79 (x' := (16 * (ρ 0) + (ρ 6) + 2)) (y' := ((ρ 7))) (by show 2 + (16 * ρ 0 + (1 * ρ 6 + 0)) = _; omega) (by show 0 + (1 * ρ 7 + 0) = _; omega) (hm _ (List.mem_cons_of_mem _ (List.mem_cons_of_mem _ List.mem_cons_self)))) hG
  obtain ⟨k0, -⟩ := H
  exact ⟨_, List.mem_cons_self, ρ, fun _ _ => rfl, (okM_c (pvp 83 (by show 0 + (4096 * ρ 0 + (1 * ρ 1 + 0)) = _; omega) (by show 8192 + (1 * ρ 2 + (32 * ρ 3 + (1024 * ρ 4 + (131072 * ρ 5 + (8192 * ρ 6 + 0))))) = _; omega) k0) okM_n), okB_n, okF_n⟩
-- cle_0
theorem cr_312 (M : pM) (s0 s1 s2 s3 s4 s5 s6 : Int) (b0 : 0 ≤ s0 ∧ s0 ≤ 1900) (b1 : 0 ≤ s1 ∧ s1 ≤ 950) (b2 : 0 ≤ s2 ∧ s2 ≤ 1900) (b3 : 0 ≤ s3 ∧ s3 ≤ 12) (b4 : 0 ≤ s4 ∧ s4 ≤ 20) (b5 : 0 ≤ s5 ∧ s5 ≤ 4) (b6 : 0 ≤ s6 ∧ s6 ≤ 7) (m0 : HP 83 (4096 * s0 + s1) (s3 + 32 * s4 + 1024 * s5 + 131072 * s6 + 49152) M) (m1 : HP 53 (4096 * s0 + s1) (256 * s2 + 24) M) (m2 : HP 87 (s0) (s6) M) (hG : gI M) : (HP 56 (4096 * s0 + s1) (s3 + 32 * s4 + 1024 * s5) M ∧ True) := by
  have hv := (Eq.mp hp_87 m2).2
  exact ⟨Eq.mpr hp_56 (k_cle (u := s6.toNat) (w := s3) (r := s4) (g := s5) (P := s0) (l := s1) (Eq.mp hp_83 m0) (by omega) ⟨⟨by omega, by omega⟩, ⟨by omega, by omega⟩, by omega, by omega⟩ (ex_o (K := 1) (j := 7) (a := s2) (Eq.mp hp_53 m1) ⟨by omega, by omega, by decide, by decide⟩) ⟨by omega, by omega, by omega⟩ (by omega) (by omega)), trivial⟩
theorem rul_312 : Rul r_312 := by
  refine ⟨fun _ ρ M hm hB hF hG => ?_, fun gi gv hg => (by cases hg)⟩
  have H := cr_312 M (ρ 0) (ρ 1) (ρ 2) (ρ 3) (ρ 4) (ρ 5) (ρ 6) (hB _ List.mem_cons_self) (hB _ (List.mem_cons_of_mem _ List.mem_cons_self)) (hB _ (List.mem_cons_of_mem _ (List.mem_cons_of_mem _ List.mem_cons_self))) (hB _ (List.mem_cons_of_mem _ (List.mem_cons_of_mem _ (List.mem_cons_of_mem _ List.mem_cons_self)))) (hB _ (List.mem_cons_of_mem _ (List.mem_cons_of_mem _ (List.mem_cons_of_mem _ (List.mem_cons_of_mem _ List.mem_cons_self))))) (hB _ (List.mem_cons_of_mem _ (List.mem_cons_of_mem _ (List.mem_cons_of_mem _ (List.mem_cons_of_mem _ (List.mem_cons_of_mem _ List.mem_cons_self)))))) (hB _ (List.mem_cons_of_mem _ (List.mem_cons_of_mem _ (List.mem_cons_of_mem _ (List.mem_cons_of_mem _ (List.mem_cons_of_mem _ (List.mem_cons_of_mem _ List.mem_cons_self))))))) (cvp 83 (x' := (4096 * (ρ 0) + (ρ 1))) (y' := ((ρ 3) + 32 * (ρ 4) + 1024 * (ρ 5) + 131072 * (ρ 6) + 49152)) (by show 0 + (4096 * ρ 0 + (1 * ρ 1 + 0)) = _; omega) (by show 49152 + (1 * ρ 3 + (32 * ρ 4 + (1024 * ρ 5 + (131072 * ρ 6 + 0)))) = _; omega) (hm _ List.mem_cons_self)) (cvp 53 (x' := (4096 * (ρ 0) + (ρ 1))) (y' := (256 * (ρ 2) + 24)) (by show 0 + (4096 * ρ 0 + (1 * ρ 1 + 0)) = _; omega) (by show 24 + (256 * ρ 2 + 0) = _; omega) (hm _ (List.mem_cons_of_mem _ List.mem_cons_self))) (cvp 87 (x' := ((ρ 0))) (y' := ((ρ 6))) (by show 0 + (1 * ρ 0 + 0) = _; omega) (by show 0 + (1 * ρ 6 + 0) = _; omega) (hm _ (List.mem_cons_of_mem _ (List.mem_cons_of_mem _ List.mem_cons_self)))) hG
  obtain ⟨k0, -⟩ := H
  exact ⟨_, List.mem_cons_self, ρ, fun _ _ => rfl, (okM_c (pvp 56 (by show 0 + (4096 * ρ 0 + (1 * ρ 1 + 0)) = _; omega) (by show 0 + (1 * ρ 3 + (32 * ρ 4 + (1024 * ρ 5 + 0))) = _; omega) k0) okM_n), okB_n, okF_n⟩
-- cww_0
theorem cr_313 (M : pM) (s0 s1 s2 s3 s4 s5 s6 s7 s8 : Int) (b0 : 0 ≤ s0 ∧ s0 ≤ 1900) (b1 : 0 ≤ s1 ∧ s1 ≤ 950) (b2 : 0 ≤ s2 ∧ s2 ≤ 1900) (b3 : 0 ≤ s3 ∧ s3 ≤ 12) (b4 : 0 ≤ s4 ∧ s4 ≤ 20) (b5 : 0 ≤ s5 ∧ s5 ≤ 4) (b6 : 0 ≤ s6 ∧ s6 ≤ 5) (b7 : 0 ≤ s7 ∧ s7 ≤ 3) (b8 : 0 ≤ s8 ∧ s8 ≤ 3) (m0 : HP 54 (4096 * s0 + s1) (s3 + 32 * s4 + 1024 * s5) M) (m1 : HP 53 (4096 * s0 + s1) (256 * s2 + 36) M) (m2 : HP 79 (16 * s0 + 1) (s6) M) (m3 : HP 88 (s0) (s7) M) (m4 : HP 79 (16 * s0 + 3) (s8) M) (hG : gI M) : (HP 56 (4096 * s0 + s1) (s3 + 32 * s4 + 1024 * s5) (st M 6 (s6).toNat (s7 + 4 * s8)) ∧ True) := by
  have hq : qRc 0 (st M 6 (s6.toNat) (s7 + 4 * s8)) = qU (qRc 0 M) 2 (s6.toNat) (s7 + 4 * s8) := qRc_st (b := 0) (k := 2)
  have ht : tm (st M 6 (s6.toNat) (s7 + 4 * s8)) = tm M := tm_st (by decide) (by decide)
  rw [show (s6).toNat = s6.toNat by omega]
  refine ⟨Eq.mpr hp_56 ?_, trivial⟩
  rw [ht, hq]
  exact k_cww (P := s0) (l := s1) (Eq.mp hp_54 m0) (ex_o (K := 2) (j := 3) (a := s2) (Eq.mp hp_53 m1) ⟨by omega, by omega, by decide, by decide⟩) ⟨by omega, by omega, by omega⟩ (q79 (P := s0) (i := 1) m2 ⟨by omega, by decide⟩ (by omega)) (Eq.mp hp_88 m3).2 (q79 (P := s0) (i := 3) m4 ⟨by omega, by decide⟩ (by omega)) (by omega) (by omega) (by omega) (by omega)
theorem rul_313 : Rul r_313 := by
  refine ⟨fun h => (by cases h), fun gi gv hg ρ M hm hB hF hG => ?_⟩
  obtain ⟨g1, g2⟩ := List.cons.inj (show ([aI ((0 : Int), ([(6, 1)] : List (Nat × Int))), aI ((0 : Int), ([(7, 1), (8, 4)] : List (Nat × Int)))] : List av) = [.inl gi, .inl gv] from hg)
  obtain ⟨g2, -⟩ := List.cons.inj g2
  cases g1
  cases g2
  have ei : ev ρ ((0 : Int), ([(6, 1)] : List (Nat × Int))) = ((ρ 6)) := by show 0 + (1 * ρ 6 + 0) = _; omega
  have ew : ev ρ ((0 : Int), ([(7, 1), (8, 4)] : List (Nat × Int))) = ((ρ 7) + 4 * (ρ 8)) := by show 0 + (1 * ρ 7 + (4 * ρ 8 + 0)) = _; omega
  rw [show (st M (ctj r_313) (ev ρ ((0 : Int), ([(6, 1)] : List (Nat × Int)))).toNat (ev ρ ((0 : Int), ([(7, 1), (8, 4)] : List (Nat × Int))))) = (st M 6 ((ρ 6)).toNat ((ρ 7) + 4 * (ρ 8))) from by rw [ei, ew]; rfl]
  have H := cr_313 M (ρ 0) (ρ 1) (ρ 2) (ρ 3) (ρ 4) (ρ 5) (ρ 6) (ρ 7) (ρ 8) (hB _ List.mem_cons_self) (hB _ (List.mem_cons_of_mem _ List.mem_cons_self)) (hB _ (List.mem_cons_of_mem _ (List.mem_cons_of_mem _ List.mem_cons_self))) (hB _ (List.mem_cons_of_mem _ (List.mem_cons_of_mem _ (List.mem_cons_of_mem _ List.mem_cons_self)))) (hB _ (List.mem_cons_of_mem _ (List.mem_cons_of_mem _ (List.mem_cons_of_mem _ (List.mem_cons_of_mem _ List.mem_cons_self))))) (hB _ (List.mem_cons_of_mem _ (List.mem_cons_of_mem _ (List.mem_cons_of_mem _ (List.mem_cons_of_mem _ (List.mem_cons_of_mem _ List.mem_cons_self)))))) (hB _ (List.mem_cons_of_mem _ (List.mem_cons_of_mem _ (List.mem_cons_of_mem _ (List.mem_cons_of_mem _ (List.mem_cons_of_mem _ (List.mem_cons_of_mem _ List.mem_cons_self))))))) (hB _ (List.mem_cons_of_mem _ (List.mem_cons_of_mem _ (List.mem_cons_of_mem _ (List.mem_cons_of_mem _ (List.mem_cons_of_mem _ (List.mem_cons_of_mem _ (List.mem_cons_of_mem _ List.mem_cons_self)))))))) (hB _ (List.mem_cons_of_mem _ (List.mem_cons_of_mem _ (List.mem_cons_of_mem _ (List.mem_cons_of_mem _ (List.mem_cons_of_mem _ (List.mem_cons_of_mem _ (List.mem_cons_of_mem _ (List.mem_cons_of_mem _ List.mem_cons_self))))))))) (cvp 54 (x' := (4096 * (ρ 0) + (ρ 1))) (y' := ((ρ 3) + 32 * (ρ 4) + 1024 * (ρ 5))) (by show 0 + (4096 * ρ 0 + (1 * ρ 1 + 0)) = _; omega) (by show 0 + (1 * ρ 3 + (32 * ρ 4 + (1024 * ρ 5 + 0))) = _; omega) (hm _ List.mem_cons_self)) (cvp 53 (x' := (4096 * (ρ 0) + (ρ 1))) (y' := (256 * (ρ 2) + 36)) (by show 0 + (4096 * ρ 0 + (1 * ρ 1 + 0)) = _; omega) (by show 36 + (256 * ρ 2 + 0) = _; omega) (hm _ (List.mem_cons_of_mem _ List.mem_cons_self))) (cvp 79 (x' := (16 * (ρ 0) + 1)) (y' := ((ρ 6))) (by show 1 + (16 * ρ 0 + 0) = _; omega) (by show 0 + (1 * ρ 6 + 0) = _; omega) (hm _ (List.mem_cons_of_mem _ (List.mem_cons_of_mem _ List.mem_cons_self)))) (cvp 88 (x' := ((ρ 0))) (y' := ((ρ 7))) (by show 0 + (1 * ρ 0 + 0) = _; omega) (by show 0 + (1 * ρ 7 + 0) = _; omega) (hm _ (List.mem_cons_of_mem _ (List.mem_cons_of_mem _ (List.mem_cons_of_mem _ List.mem_cons_self))))) (cvp 79 (x' := (16 * (ρ 0) + 3)) (y' := ((ρ 8))) (by show 3 + (16 * ρ 0 + 0) = _; omega) (by show 0 + (1 * ρ 8 + 0) = _; omega) (hm _ (List.mem_cons_of_mem _ (List.mem_cons_of_mem _ (List.mem_cons_of_mem _ (List.mem_cons_of_mem _ List.mem_cons_self)))))) hG
  obtain ⟨k0, -⟩ := H
  exact ⟨_, List.mem_cons_self, ρ, fun _ _ => rfl, (okM_c (pvp 56 (by show 0 + (4096 * ρ 0 + (1 * ρ 1 + 0)) = _; omega) (by show 0 + (1 * ρ 3 + (32 * ρ 4 + (1024 * ρ 5 + 0))) = _; omega) k0) okM_n), okB_n, okF_n⟩
-- ctw_0
theorem cr_314 (M : pM) (s0 s1 s2 s3 s4 s5 s6 s7 : Int) (b0 : 0 ≤ s0 ∧ s0 ≤ 1900) (b1 : 0 ≤ s1 ∧ s1 ≤ 950) (b2 : 0 ≤ s2 ∧ s2 ≤ 1900) (b3 : 0 ≤ s3 ∧ s3 ≤ 12) (b4 : 0 ≤ s4 ∧ s4 ≤ 20) (b5 : 0 ≤ s5 ∧ s5 ≤ 4) (b6 : 0 ≤ s6 ∧ s6 ≤ 5) (b7 : 1 ≤ s7 ∧ s7 ≤ 40) (m0 : HP 54 (4096 * s0 + s1) (s3 + 32 * s4 + 1024 * s5) M) (m1 : HP 53 (4096 * s0 + s1) (256 * s2 + 51) M) (m2 : HP 79 (16 * s0 + 1) (s6) M) (m3 : HP 79 (16 * s0 + 2) (s7) M) (hG : gI M) : (HP 56 (4096 * s0 + s1) (s3 + 32 * s4 + 1024 * s5) (st M 7 (s6).toNat (s7)) ∧ True) := by
  have hq : qRc 0 (st M 7 (s6.toNat) (s7)) = qU (qRc 0 M) 3 (s6.toNat) (s7) := qRc_st (b := 0) (k := 3)
  have ht : tm (st M 7 (s6.toNat) (s7)) = tm M := tm_st (by decide) (by decide)
  rw [show (s6).toNat = s6.toNat by omega]
  refine ⟨Eq.mpr hp_56 ?_, trivial⟩
  rw [ht, hq]
  exact k_ctw (P := s0) (l := s1) (Eq.mp hp_54 m0) (ex_o (K := 3) (j := 2) (a := s2) (Eq.mp hp_53 m1) ⟨by omega, by omega, by decide, by decide⟩) ⟨by omega, by omega, by omega⟩ (q79 (P := s0) (i := 1) m2 ⟨by omega, by decide⟩ (by omega)) (q79 (P := s0) (i := 2) m3 ⟨by omega, by decide⟩ (by omega)) (by omega)
theorem rul_314 : Rul r_314 := by
  refine ⟨fun h => (by cases h), fun gi gv hg ρ M hm hB hF hG => ?_⟩
  obtain ⟨g1, g2⟩ := List.cons.inj (show ([aI ((0 : Int), ([(6, 1)] : List (Nat × Int))), aI ((0 : Int), ([(7, 1)] : List (Nat × Int)))] : List av) = [.inl gi, .inl gv] from hg)
  obtain ⟨g2, -⟩ := List.cons.inj g2
  cases g1
  cases g2
  have ei : ev ρ ((0 : Int), ([(6, 1)] : List (Nat × Int))) = ((ρ 6)) := by show 0 + (1 * ρ 6 + 0) = _; omega
  have ew : ev ρ ((0 : Int), ([(7, 1)] : List (Nat × Int))) = ((ρ 7)) := by show 0 + (1 * ρ 7 + 0) = _; omega
  rw [show (st M (ctj r_314) (ev ρ ((0 : Int), ([(6, 1)] : List (Nat × Int)))).toNat (ev ρ ((0 : Int), ([(7, 1)] : List (Nat × Int))))) = (st M 7 ((ρ 6)).toNat ((ρ 7))) from by rw [ei, ew]; rfl]
  have H := cr_314 M (ρ 0) (ρ 1) (ρ 2) (ρ 3) (ρ 4) (ρ 5) (ρ 6) (ρ 7) (hB _ List.mem_cons_self) (hB _ (List.mem_cons_of_mem _ List.mem_cons_self)) (hB _ (List.mem_cons_of_mem _ (List.mem_cons_of_mem _ List.mem_cons_self))) (hB _ (List.mem_cons_of_mem _ (List.mem_cons_of_mem _ (List.mem_cons_of_mem _ List.mem_cons_self)))) (hB _ (List.mem_cons_of_mem _ (List.mem_cons_of_mem _ (List.mem_cons_of_mem _ (List.mem_cons_of_mem _ List.mem_cons_self))))) (hB _ (List.mem_cons_of_mem _ (List.mem_cons_of_mem _ (List.mem_cons_of_mem _ (List.mem_cons_of_mem _ (List.mem_cons_of_mem _ List.mem_cons_self)))))) (hB _ (List.mem_cons_of_mem _ (List.mem_cons_of_mem _ (List.mem_cons_of_mem _ (List.mem_cons_of_mem _ (List.mem_cons_of_mem _ (List.mem_cons_of_mem _ List.mem_cons_self))))))) (hB _ (List.mem_cons_of_mem _ (List.mem_cons_of_mem _ (List.mem_cons_of_mem _ (List.mem_cons_of_mem _ (List.mem_cons_of_mem _ (List.mem_cons_of_mem _ (List.mem_cons_of_mem _ List.mem_cons_self)))))))) (cvp 54 (x' := (4096 * (ρ 0) + (ρ 1))) (y' := ((ρ 3) + 32 * (ρ 4) + 1024 * (ρ 5))) (by show 0 + (4096 * ρ 0 + (1 * ρ 1 + 0)) = _; omega) (by show 0 + (1 * ρ 3 + (32 * ρ 4 + (1024 * ρ 5 + 0))) = _; omega) (hm _ List.mem_cons_self)) (cvp 53 (x' := (4096 * (ρ 0) + (ρ 1))) (y' := (256 * (ρ 2) + 51)) (by show 0 + (4096 * ρ 0 + (1 * ρ 1 + 0)) = _; omega) (by show 51 + (256 * ρ 2 + 0) = _; omega) (hm _ (List.mem_cons_of_mem _ List.mem_cons_self))) (cvp 79 (x' := (16 * (ρ 0) + 1)) (y' := ((ρ 6))) (by show 1 + (16 * ρ 0 + 0) = _; omega) (by show 0 + (1 * ρ 6 + 0) = _; omega) (hm _ (List.mem_cons_of_mem _ (List.mem_cons_of_mem _ List.mem_cons_self)))) (cvp 79 (x' := (16 * (ρ 0) + 2)) (y' := ((ρ 7))) (by show 2 + (16 * ρ 0 + 0) = _; omega) (by show 0 + (1 * ρ 7 + 0) = _; omega) (hm _ (List.mem_cons_of_mem _ (List.mem_cons_of_mem _ (List.mem_cons_of_mem _ List.mem_cons_self))))) hG
  obtain ⟨k0, -⟩ := H
  exact ⟨_, List.mem_cons_self, ρ, fun _ _ => rfl, (okM_c (pvp 56 (by show 0 + (4096 * ρ 0 + (1 * ρ 1 + 0)) = _; omega) (by show 0 + (1 * ρ 3 + (32 * ρ 4 + (1024 * ρ 5 + 0))) = _; omega) k0) okM_n), okB_n, okF_n⟩
-- cap_0
theorem cr_315 (M : pM) (s0 s1 s2 s3 s4 s5 s6 : Int) (b0 : 0 ≤ s0 ∧ s0 ≤ 1900) (b1 : 0 ≤ s1 ∧ s1 ≤ 950) (b2 : 0 ≤ s2 ∧ s2 ≤ 12) (b3 : 0 ≤ s3 ∧ s3 ≤ 20) (b4 : 0 ≤ s4 ∧ s4 ≤ 4) (b5 : 0 ≤ s5 ∧ s5 ≤ 59) (b6 : 0 ≤ s6 ∧ s6 ≤ 99) (m0 : HP 54 (4096 * s0 + s1) (s2 + 32 * s3 + 1024 * s4) M) (f0 : 0 ≤ ((-4) * s2 + s5)) (hG : gI M) : (HP 54 (4096 * s0 + s1) (s2 + 32 * s3 + 1024 * s4) (st M 8 (s5).toNat (s6)) ∧ True) := by
  have hq : qRc 0 (st M 8 (s5.toNat) (s6)) = qU (qRc 0 M) 4 (s5.toNat) (s6) := qRc_st (b := 0) (k := 4)
  have ht : tm (st M 8 (s5.toNat) (s6)) = tm M := tm_st (by decide) (by decide)
  rw [show (s5).toNat = s5.toNat by omega]
  refine ⟨Eq.mpr hp_54 ?_, trivial⟩
  rw [ht, hq]
  exact k_cap (w := s2) (r := s3) (g := s4) (Eq.mp hp_54 m0) (by omega) ⟨⟨by omega, by omega⟩, ⟨by omega, by omega⟩, by omega, by omega⟩ (by omega)
theorem rul_315 : Rul r_315 := by
  refine ⟨fun h => (by cases h), fun gi gv hg ρ M hm hB hF hG => ?_⟩
  obtain ⟨g1, g2⟩ := List.cons.inj (show ([aI ((0 : Int), ([(5, 1)] : List (Nat × Int))), aI ((0 : Int), ([(6, 1)] : List (Nat × Int)))] : List av) = [.inl gi, .inl gv] from hg)
  obtain ⟨g2, -⟩ := List.cons.inj g2
  cases g1
  cases g2
  have ei : ev ρ ((0 : Int), ([(5, 1)] : List (Nat × Int))) = ((ρ 5)) := by show 0 + (1 * ρ 5 + 0) = _; omega
  have ew : ev ρ ((0 : Int), ([(6, 1)] : List (Nat × Int))) = ((ρ 6)) := by show 0 + (1 * ρ 6 + 0) = _; omega
  rw [show (st M (ctj r_315) (ev ρ ((0 : Int), ([(5, 1)] : List (Nat × Int)))).toNat (ev ρ ((0 : Int), ([(6, 1)] : List (Nat × Int))))) = (st M 8 ((ρ 5)).toNat ((ρ 6))) from by rw [ei, ew]; rfl]
  have H := cr_315 M (ρ 0) (ρ 1) (ρ 2) (ρ 3) (ρ 4) (ρ 5) (ρ 6) (hB _ List.mem_cons_self) (hB _ (List.mem_cons_of_mem _ List.mem_cons_self)) (hB _ (List.mem_cons_of_mem _ (List.mem_cons_of_mem _ List.mem_cons_self))) (hB _ (List.mem_cons_of_mem _ (List.mem_cons_of_mem _ (List.mem_cons_of_mem _ List.mem_cons_self)))) (hB _ (List.mem_cons_of_mem _ (List.mem_cons_of_mem _ (List.mem_cons_of_mem _ (List.mem_cons_of_mem _ List.mem_cons_self))))) (hB _ (List.mem_cons_of_mem _ (List.mem_cons_of_mem _ (List.mem_cons_of_mem _ (List.mem_cons_of_mem _ (List.mem_cons_of_mem _ List.mem_cons_self)))))) (hB _ (List.mem_cons_of_mem _ (List.mem_cons_of_mem _ (List.mem_cons_of_mem _ (List.mem_cons_of_mem _ (List.mem_cons_of_mem _ (List.mem_cons_of_mem _ List.mem_cons_self))))))) (cvp 54 (x' := (4096 * (ρ 0) + (ρ 1))) (y' := ((ρ 2) + 32 * (ρ 3) + 1024 * (ρ 4))) (by show 0 + (4096 * ρ 0 + (1 * ρ 1 + 0)) = _; omega) (by show 0 + (1 * ρ 2 + (32 * ρ 3 + (1024 * ρ 4 + 0))) = _; omega) (hm _ List.mem_cons_self)) (by have h := hF _ List.mem_cons_self; have h : 0 ≤ 0 + ((-4) * ρ 2 + (1 * ρ 5 + 0)) := h; omega) hG
  obtain ⟨k0, -⟩ := H
  exact ⟨_, List.mem_cons_self, ρ, fun _ _ => rfl, (okM_c (pvp 54 (by show 0 + (4096 * ρ 0 + (1 * ρ 1 + 0)) = _; omega) (by show 0 + (1 * ρ 2 + (32 * ρ 3 + (1024 * ρ 4 + 0))) = _; omega) k0) okM_n), okB_n, okF_n⟩
-- crp_0
theorem cr_316 (M : pM) (s0 s1 s2 s3 s4 s5 s6 : Int) (b0 : 0 ≤ s0 ∧ s0 ≤ 1900) (b1 : 0 ≤ s1 ∧ s1 ≤ 950) (b2 : 0 ≤ s2 ∧ s2 ≤ 12) (b3 : 0 ≤ s3 ∧ s3 ≤ 20) (b4 : 0 ≤ s4 ∧ s4 ≤ 4) (b5 : 0 ≤ s5 ∧ s5 ≤ 59) (b6 : 0 ≤ s6 ∧ s6 ≤ 99) (m0 : HP 54 (4096 * s0 + s1) (s2 + 32 * s3 + 1024 * s4) M) (f0 : 0 ≤ ((-3) * s3 + s5)) (hG : gI M) : (HP 54 (4096 * s0 + s1) (s2 + 32 * s3 + 1024 * s4) (st M 9 (s5).toNat (s6)) ∧ True) := by
  have hq : qRc 0 (st M 9 (s5.toNat) (s6)) = qU (qRc 0 M) 5 (s5.toNat) (s6) := qRc_st (b := 0) (k := 5)
  have ht : tm (st M 9 (s5.toNat) (s6)) = tm M := tm_st (by decide) (by decide)
  rw [show (s5).toNat = s5.toNat by omega]
  refine ⟨Eq.mpr hp_54 ?_, trivial⟩
  rw [ht, hq]
  exact k_crp (w := s2) (r := s3) (g := s4) (Eq.mp hp_54 m0) (by omega) ⟨⟨by omega, by omega⟩, ⟨by omega, by omega⟩, by omega, by omega⟩ (by omega)
theorem rul_316 : Rul r_316 := by
  refine ⟨fun h => (by cases h), fun gi gv hg ρ M hm hB hF hG => ?_⟩
  obtain ⟨g1, g2⟩ := List.cons.inj (show ([aI ((0 : Int), ([(5, 1)] : List (Nat × Int))), aI ((0 : Int), ([(6, 1)] : List (Nat × Int)))] : List av) = [.inl gi, .inl gv] from hg)
  obtain ⟨g2, -⟩ := List.cons.inj g2
  cases g1
  cases g2
  have ei : ev ρ ((0 : Int), ([(5, 1)] : List (Nat × Int))) = ((ρ 5)) := by show 0 + (1 * ρ 5 + 0) = _; omega
  have ew : ev ρ ((0 : Int), ([(6, 1)] : List (Nat × Int))) = ((ρ 6)) := by show 0 + (1 * ρ 6 + 0) = _; omega
  rw [show (st M (ctj r_316) (ev ρ ((0 : Int), ([(5, 1)] : List (Nat × Int)))).toNat (ev ρ ((0 : Int), ([(6, 1)] : List (Nat × Int))))) = (st M 9 ((ρ 5)).toNat ((ρ 6))) from by rw [ei, ew]; rfl]
  have H := cr_316 M (ρ 0) (ρ 1) (ρ 2) (ρ 3) (ρ 4) (ρ 5) (ρ 6) (hB _ List.mem_cons_self) (hB _ (List.mem_cons_of_mem _ List.mem_cons_self)) (hB _ (List.mem_cons_of_mem _ (List.mem_cons_of_mem _ List.mem_cons_self))) (hB _ (List.mem_cons_of_mem _ (List.mem_cons_of_mem _ (List.mem_cons_of_mem _ List.mem_cons_self)))) (hB _ (List.mem_cons_of_mem _ (List.mem_cons_of_mem _ (List.mem_cons_of_mem _ (List.mem_cons_of_mem _ List.mem_cons_self))))) (hB _ (List.mem_cons_of_mem _ (List.mem_cons_of_mem _ (List.mem_cons_of_mem _ (List.mem_cons_of_mem _ (List.mem_cons_of_mem _ List.mem_cons_self)))))) (hB _ (List.mem_cons_of_mem _ (List.mem_cons_of_mem _ (List.mem_cons_of_mem _ (List.mem_cons_of_mem _ (List.mem_cons_of_mem _ (List.mem_cons_of_mem _ List.mem_cons_self))))))) (cvp 54 (x' := (4096 * (ρ 0) + (ρ 1))) (y' := ((ρ 2) + 32 * (ρ 3) + 1024 * (ρ 4))) (by show 0 + (4096 * ρ 0 + (1 * ρ 1 + 0)) = _; omega) (by show 0 + (1 * ρ 2 + (32 * ρ 3 + (1024 * ρ 4 + 0))) = _; omega) (hm _ List.mem_cons_self)) (by have h := hF _ List.mem_cons_self; have h : 0 ≤ 0 + ((-3) * ρ 3 + (1 * ρ 5 + 0)) := h; omega) hG
  obtain ⟨k0, -⟩ := H
  exact ⟨_, List.mem_cons_self, ρ, fun _ _ => rfl, (okM_c (pvp 54 (by show 0 + (4096 * ρ 0 + (1 * ρ 1 + 0)) = _; omega) (by show 0 + (1 * ρ 2 + (32 * ρ 3 + (1024 * ρ 4 + 0))) = _; omega) k0) okM_n), okB_n, okF_n⟩
-- cae_0
theorem cr_317 (M : pM) (s0 s1 s2 s3 s4 s5 s6 s7 s8 s9 s10 : Int) (b0 : 0 ≤ s0 ∧ s0 ≤ 1900) (b1 : 0 ≤ s1 ∧ s1 ≤ 950) (b2 : 0 ≤ s2 ∧ s2 ≤ 1900) (b3 : 0 ≤ s3 ∧ s3 ≤ 12) (b4 : 0 ≤ s4 ∧ s4 ≤ 20) (b5 : 0 ≤ s5 ∧ s5 ≤ 4) (b6 : 0 ≤ s6 ∧ s6 ≤ 7) (b7 : 0 ≤ s7 ∧ s7 ≤ 7) (b8 : 0 ≤ s8 ∧ s8 ≤ 40) (b9 : 0 ≤ s9 ∧ s9 ≤ 36) (b10 : 1 ≤ s10 ∧ s10 ≤ 36) (m0 : HP 54 (4096 * s0 + s1) (s3 + 32 * s4 + 1024 * s5) M) (m1 : HP 53 (4096 * s0 + s1) (256 * s2 + 73) M) (m2 : HP 79 (16 * s0 + 1) (s6) M) (m3 : HP 79 (16 * s0 + 2) (s7) M) (m4 : HP 79 (16 * s0 + 4) (s8) M) (m5 : HP 79 (16 * s0 + 6) (s9) M) (m6 : HP 79 (16 * s0 + 8) (s10) M) (m7 : (0 ≤ (4 * s3) ∧ M 8 (4 * s3).toNat = (s6 + 8 * s7))) (m8 : (0 ≤ (4 * s3 + 1) ∧ M 8 (4 * s3 + 1).toNat = (s8))) (m9 : (0 ≤ (4 * s3 + 2) ∧ M 8 (4 * s3 + 2).toNat = (s9))) (m10 : (0 ≤ (4 * s3 + 3) ∧ M 8 (4 * s3 + 3).toNat = (s10))) (f0 : 0 ≤ ((-1) * s3 + 11)) (hG : gI M) : (HP 56 (4096 * s0 + s1) (s3 + 32 * s4 + 1024 * s5 + 1) M ∧ True) := by
  exact ⟨Eq.mpr hp_56 (k_cae (w := s3) (r := s4) (g := s5) (P := s0) (l := s1) (Eq.mp hp_54 m0) (by omega) ⟨⟨by omega, by omega⟩, ⟨by omega, by omega⟩, by omega, by omega⟩ (ex_o (K := 4) (j := 8) (a := s2) (Eq.mp hp_53 m1) ⟨by omega, by omega, by decide, by decide⟩) ⟨by omega, by omega, by omega⟩ (q79 (P := s0) (i := 1) m2 ⟨by omega, by decide⟩ (by omega)) (q79 (P := s0) (i := 2) m3 ⟨by omega, by decide⟩ (by omega)) (q79 (P := s0) (i := 4) m4 ⟨by omega, by decide⟩ (by omega)) (q79 (P := s0) (i := 6) m5 ⟨by omega, by decide⟩ (by omega)) (q79 (P := s0) (i := 8) m6 ⟨by omega, by decide⟩ (by omega)) m7.2 m8.2 m9.2 m10.2 (by omega) (by omega)), trivial⟩
theorem rul_317 : Rul r_317 := by
  refine ⟨fun _ ρ M hm hB hF hG => ?_, fun gi gv hg => (by cases hg)⟩
  have H := cr_317 M (ρ 0) (ρ 1) (ρ 2) (ρ 3) (ρ 4) (ρ 5) (ρ 6) (ρ 7) (ρ 8) (ρ 9) (ρ 10) (hB _ List.mem_cons_self) (hB _ (List.mem_cons_of_mem _ List.mem_cons_self)) (hB _ (List.mem_cons_of_mem _ (List.mem_cons_of_mem _ List.mem_cons_self))) (hB _ (List.mem_cons_of_mem _ (List.mem_cons_of_mem _ (List.mem_cons_of_mem _ List.mem_cons_self)))) (hB _ (List.mem_cons_of_mem _ (List.mem_cons_of_mem _ (List.mem_cons_of_mem _ (List.mem_cons_of_mem _ List.mem_cons_self))))) (hB _ (List.mem_cons_of_mem _ (List.mem_cons_of_mem _ (List.mem_cons_of_mem _ (List.mem_cons_of_mem _ (List.mem_cons_of_mem _ List.mem_cons_self)))))) (hB _ (List.mem_cons_of_mem _ (List.mem_cons_of_mem _ (List.mem_cons_of_mem _ (List.mem_cons_of_mem _ (List.mem_cons_of_mem _ (List.mem_cons_of_mem _ List.mem_cons_self))))))) (hB _ (List.mem_cons_of_mem _ (List.mem_cons_of_mem _ (List.mem_cons_of_mem _ (List.mem_cons_of_mem _ (List.mem_cons_of_mem _ (List.mem_cons_of_mem _ (List.mem_cons_of_mem _ List.mem_cons_self)))))))) (hB _ (List.mem_cons_of_mem _ (List.mem_cons_of_mem _ (List.mem_cons_of_mem _ (List.mem_cons_of_mem _ (List.mem_cons_of_mem _ (List.mem_cons_of_mem _ (List.mem_cons_of_mem _ (List.mem_cons_of_mem _ List.mem_cons_self))))))))) (hB _ (List.mem_cons_of_mem _ (List.mem_cons_of_mem _ (List.mem_cons_of_mem _ (List.mem_cons_of_mem _ (List.mem_cons_of_mem _ (List.mem_cons_of_mem _ (List.mem_cons_of_mem _ (List.mem_cons_of_mem _ (List.mem_cons_of_mem _ List.mem_cons_self)))))))))) (hB _ (List.mem_cons_of_mem _ (List.mem_cons_of_mem _ (List.mem_cons_of_mem _ (List.mem_cons_of_mem _ (List.mem_cons_of_mem _ (List.mem_cons_of_mem _ (List.mem_cons_of_mem _ (List.mem_cons_of_mem _ (List.mem_cons_of_mem _ (List.mem_cons_of_mem _ List.mem_cons_self))))))))))) (cvp 54 (x' := (4096 * (ρ 0) + (ρ 1))) (y' := ((ρ 3) + 32 * (ρ 4) + 1024 * (ρ 5))) (by show 0 + (4096 * ρ 0 + (1 * ρ 1 + 0)) = _; omega) (by show 0 + (1 * ρ 3 + (32 * ρ 4 + (1024 * ρ 5 + 0))) = _; omega) (hm _ List.mem_cons_self)) (cvp 53 (x' := (4096 * (ρ 0) + (ρ 1))) (y' := (256 * (ρ 2) + 73)) (by show 0 + (4096 * ρ 0 + (1 * ρ 1 + 0)) = _; omega) (by show 73 + (256 * ρ 2 + 0) = _; omega) (hm _ (List.mem_cons_of_mem _ List.mem_cons_self))) (cvp 79 (x' := (16 * (ρ 0) + 1)) (y' := ((ρ 6))) (by show 1 + (16 * ρ 0 + 0) = _; omega) (by show 0 + (1 * ρ 6 + 0) = _; omega) (hm _ (List.mem_cons_of_mem _ (List.mem_cons_of_mem _ List.mem_cons_self)))) (cvp 79 (x' := (16 * (ρ 0) + 2)) (y' := ((ρ 7))) (by show 2 + (16 * ρ 0 + 0) = _; omega) (by show 0 + (1 * ρ 7 + 0) = _; omega) (hm _ (List.mem_cons_of_mem _ (List.mem_cons_of_mem _ (List.mem_cons_of_mem _ List.mem_cons_self))))) (cvp 79 (x' := (16 * (ρ 0) + 4)) (y' := ((ρ 8))) (by show 4 + (16 * ρ 0 + 0) = _; omega) (by show 0 + (1 * ρ 8 + 0) = _; omega) (hm _ (List.mem_cons_of_mem _ (List.mem_cons_of_mem _ (List.mem_cons_of_mem _ (List.mem_cons_of_mem _ List.mem_cons_self)))))) (cvp 79 (x' := (16 * (ρ 0) + 6)) (y' := ((ρ 9))) (by show 6 + (16 * ρ 0 + 0) = _; omega) (by show 0 + (1 * ρ 9 + 0) = _; omega) (hm _ (List.mem_cons_of_mem _ (List.mem_cons_of_mem _ (List.mem_cons_of_mem _ (List.mem_cons_of_mem _ (List.mem_cons_of_mem _ List.mem_cons_self))))))) (cvp 79 (x' := (16 * (ρ 0) + 8)) (y' := ((ρ 10))) (by show 8 + (16 * ρ 0 + 0) = _; omega) (by show 0 + (1 * ρ 10 + 0) = _; omega) (hm _ (List.mem_cons_of_mem _ (List.mem_cons_of_mem _ (List.mem_cons_of_mem _ (List.mem_cons_of_mem _ (List.mem_cons_of_mem _ (List.mem_cons_of_mem _ List.mem_cons_self)))))))) (cvm (c := 8) (by decide) (x' := (4 * (ρ 3))) (y' := ((ρ 6) + 8 * (ρ 7))) (by show 0 + (4 * ρ 3 + 0) = _; omega) (by show 0 + (1 * ρ 6 + (8 * ρ 7 + 0)) = _; omega) (hm _ (List.mem_cons_of_mem _ (List.mem_cons_of_mem _ (List.mem_cons_of_mem _ (List.mem_cons_of_mem _ (List.mem_cons_of_mem _ (List.mem_cons_of_mem _ (List.mem_cons_of_mem _ List.mem_cons_self))))))))) (cvm (c := 8) (by decide) (x' := (4 * (ρ 3) + 1)) (y' := ((ρ 8))) (by show 1 + (4 * ρ 3 + 0) = _; omega) (by show 0 + (1 * ρ 8 + 0) = _; omega) (hm _ (List.mem_cons_of_mem _ (List.mem_cons_of_mem _ (List.mem_cons_of_mem _ (List.mem_cons_of_mem _ (List.mem_cons_of_mem _ (List.mem_cons_of_mem _ (List.mem_cons_of_mem _ (List.mem_cons_of_mem _ List.mem_cons_self)))))))))) (cvm (c := 8) (by decide) (x' := (4 * (ρ 3) + 2)) (y' := ((ρ 9))) (by show 2 + (4 * ρ 3 + 0) = _; omega) (by show 0 + (1 * ρ 9 + 0) = _; omega) (hm _ (List.mem_cons_of_mem _ (List.mem_cons_of_mem _ (List.mem_cons_of_mem _ (List.mem_cons_of_mem _ (List.mem_cons_of_mem _ (List.mem_cons_of_mem _ (List.mem_cons_of_mem _ (List.mem_cons_of_mem _ (List.mem_cons_of_mem _ List.mem_cons_self))))))))))) (cvm (c := 8) (by decide) (x' := (4 * (ρ 3) + 3)) (y' := ((ρ 10))) (by show 3 + (4 * ρ 3 + 0) = _; omega) (by show 0 + (1 * ρ 10 + 0) = _; omega) (hm _ (List.mem_cons_of_mem _ (List.mem_cons_of_mem _ (List.mem_cons_of_mem _ (List.mem_cons_of_mem _ (List.mem_cons_of_mem _ (List.mem_cons_of_mem _ (List.mem_cons_of_mem _ (List.mem_cons_of_mem _ (List.mem_cons_of_mem _ (List.mem_cons_of_mem _ List.mem_cons_self)))))))))))) (by have h := hF _ List.mem_cons_self; have h : 0 ≤ 11 + ((-1) * ρ 3 + 0) := h; omega) hG
  obtain ⟨k0, -⟩ := H
  exact ⟨_, List.mem_cons_self, ρ, fun _ _ => rfl, (okM_c (pvp 56 (by show 0 + (4096 * ρ 0 + (1 * ρ 1 + 0)) = _; omega) (by show 1 + (1 * ρ 3 + (32 * ρ 4 + (1024 * ρ 5 + 0))) = _; omega) k0) okM_n), okB_n, okF_n⟩
-- cre_0
theorem cr_318 (M : pM) (s0 s1 s2 s3 s4 s5 s6 s7 s8 s9 s10 : Int) (b0 : 0 ≤ s0 ∧ s0 ≤ 1900) (b1 : 0 ≤ s1 ∧ s1 ≤ 950) (b2 : 0 ≤ s2 ∧ s2 ≤ 1900) (b3 : 0 ≤ s3 ∧ s3 ≤ 12) (b4 : 0 ≤ s4 ∧ s4 ≤ 20) (b5 : 0 ≤ s5 ∧ s5 ≤ 4) (b6 : 0 ≤ s6 ∧ s6 ≤ 7) (b7 : 0 ≤ s7 ∧ s7 ≤ 7) (b8 : 0 ≤ s8 ∧ s8 ≤ 7) (b9 : 0 ≤ s9 ∧ s9 ≤ 7) (b10 : 1 ≤ s10 ∧ s10 ≤ 99) (m0 : HP 54 (4096 * s0 + s1) (s3 + 32 * s4 + 1024 * s5) M) (m1 : HP 53 (4096 * s0 + s1) (256 * s2 + 150) M) (m2 : HP 79 (16 * s0 + 1) (s6) M) (m3 : HP 79 (16 * s0 + 2) (s7) M) (m4 : HP 79 (16 * s0 + 3) (s8) M) (m5 : HP 79 (16 * s0 + 4) (s9) M) (m6 : HP 79 (16 * s0 + 5) (s10) M) (m7 : (0 ≤ (3 * s4) ∧ M 9 (3 * s4).toNat = (s6 + 8 * s7))) (m8 : (0 ≤ (3 * s4 + 1) ∧ M 9 (3 * s4 + 1).toNat = (s8 + 8 * s9))) (m9 : (0 ≤ (3 * s4 + 2) ∧ M 9 (3 * s4 + 2).toNat = (s10))) (f0 : 0 ≤ ((-1) * s4 + 19)) (hG : gI M) : (HP 56 (4096 * s0 + s1) (s3 + 32 * s4 + 1024 * s5 + 32) M ∧ True) := by
  exact ⟨Eq.mpr hp_56 (k_cre (w := s3) (r := s4) (g := s5) (P := s0) (l := s1) (Eq.mp hp_54 m0) (by omega) ⟨⟨by omega, by omega⟩, ⟨by omega, by omega⟩, by omega, by omega⟩ (ex_o (K := 9) (j := 5) (a := s2) (Eq.mp hp_53 m1) ⟨by omega, by omega, by decide, by decide⟩) ⟨by omega, by omega, by omega⟩ (q79 (P := s0) (i := 1) m2 ⟨by omega, by decide⟩ (by omega)) (q79 (P := s0) (i := 2) m3 ⟨by omega, by decide⟩ (by omega)) (q79 (P := s0) (i := 3) m4 ⟨by omega, by decide⟩ (by omega)) (q79 (P := s0) (i := 4) m5 ⟨by omega, by decide⟩ (by omega)) (q79 (P := s0) (i := 5) m6 ⟨by omega, by decide⟩ (by omega)) m7.2 m8.2 m9.2 (by omega) (by omega)), trivial⟩
theorem rul_318 : Rul r_318 := by
  refine ⟨fun _ ρ M hm hB hF hG => ?_, fun gi gv hg => (by cases hg)⟩
  have H := cr_318 M (ρ 0) (ρ 1) (ρ 2) (ρ 3) (ρ 4) (ρ 5) (ρ 6) (ρ 7) (ρ 8) (ρ 9) (ρ 10) (hB _ List.mem_cons_self) (hB _ (List.mem_cons_of_mem _ List.mem_cons_self)) (hB _ (List.mem_cons_of_mem _ (List.mem_cons_of_mem _ List.mem_cons_self))) (hB _ (List.mem_cons_of_mem _ (List.mem_cons_of_mem _ (List.mem_cons_of_mem _ List.mem_cons_self)))) (hB _ (List.mem_cons_of_mem _ (List.mem_cons_of_mem _ (List.mem_cons_of_mem _ (List.mem_cons_of_mem _ List.mem_cons_self))))) (hB _ (List.mem_cons_of_mem _ (List.mem_cons_of_mem _ (List.mem_cons_of_mem _ (List.mem_cons_of_mem _ (List.mem_cons_of_mem _ List.mem_cons_self)))))) (hB _ (List.mem_cons_of_mem _ (List.mem_cons_of_mem _ (List.mem_cons_of_mem _ (List.mem_cons_of_mem _ (List.mem_cons_of_mem _ (List.mem_cons_of_mem _ List.mem_cons_self))))))) (hB _ (List.mem_cons_of_mem _ (List.mem_cons_of_mem _ (List.mem_cons_of_mem _ (List.mem_cons_of_mem _ (List.mem_cons_of_mem _ (List.mem_cons_of_mem _ (List.mem_cons_of_mem _ List.mem_cons_self)))))))) (hB _ (List.mem_cons_of_mem _ (List.mem_cons_of_mem _ (List.mem_cons_of_mem _ (List.mem_cons_of_mem _ (List.mem_cons_of_mem _ (List.mem_cons_of_mem _ (List.mem_cons_of_mem _ (List.mem_cons_of_mem _ List.mem_cons_self))))))))) (hB _ (List.mem_cons_of_mem _ (List.mem_cons_of_mem _ (List.mem_cons_of_mem _ (List.mem_cons_of_mem _ (List.mem_cons_of_mem _ (List.mem_cons_of_mem _ (List.mem_cons_of_mem _ (List.mem_cons_of_mem _ (List.mem_cons_of_mem _ List.mem_cons_self)))))))))) (hB _ (List.mem_cons_of_mem _ (List.mem_cons_of_mem _ (List.mem_cons_of_mem _ (List.mem_cons_of_mem _ (List.mem_cons_of_mem _ (List.mem_cons_of_mem _ (List.mem_cons_of_mem _ (List.mem_cons_of_mem _ (List.mem_cons_of_mem _ (List.mem_cons_of_mem _ List.mem_cons_self))))))))))) (cvp 54 (x' := (4096 * (ρ 0) + (ρ 1))) (y' := ((ρ 3) + 32 * (ρ 4) + 1024 * (ρ 5))) (by show 0 + (4096 * ρ 0 + (1 * ρ 1 + 0)) = _; omega) (by show 0 + (1 * ρ 3 + (32 * ρ 4 + (1024 * ρ 5 + 0))) = _; omega) (hm _ List.mem_cons_self)) (cvp 53 (x' := (4096 * (ρ 0) + (ρ 1))) (y' := (256 * (ρ 2) + 150)) (by show 0 + (4096 * ρ 0 + (1 * ρ 1 + 0)) = _; omega) (by show 150 + (256 * ρ 2 + 0) = _; omega) (hm _ (List.mem_cons_of_mem _ List.mem_cons_self))) (cvp 79 (x' := (16 * (ρ 0) + 1)) (y' := ((ρ 6))) (by show 1 + (16 * ρ 0 + 0) = _; omega) (by show 0 + (1 * ρ 6 + 0) = _; omega) (hm _ (List.mem_cons_of_mem _ (List.mem_cons_of_mem _ List.mem_cons_self)))) (cvp 79 (x' := (16 * (ρ 0) + 2)) (y' := ((ρ 7))) (by show 2 + (16 * ρ 0 + 0) = _; omega) (by show 0 + (1 * ρ 7 + 0) = _; omega) (hm _ (List.mem_cons_of_mem _ (List.mem_cons_of_mem _ (List.mem_cons_of_mem _ List.mem_cons_self))))) (cvp 79 (x' := (16 * (ρ 0) + 3)) (y' := ((ρ 8))) (by show 3 + (16 * ρ 0 + 0) = _; omega) (by show 0 + (1 * ρ 8 + 0) = _; omega) (hm _ (List.mem_cons_of_mem _ (List.mem_cons_of_mem _ (List.mem_cons_of_mem _ (List.mem_cons_of_mem _ List.mem_cons_self)))))) (cvp 79 (x' := (16 * (ρ 0) + 4)) (y' := ((ρ 9))) (by show 4 + (16 * ρ 0 + 0) = _; omega) (by show 0 + (1 * ρ 9 + 0) = _; omega) (hm _ (List.mem_cons_of_mem _ (List.mem_cons_of_mem _ (List.mem_cons_of_mem _ (List.mem_cons_of_mem _ (List.mem_cons_of_mem _ List.mem_cons_self))))))) (cvp 79 (x' := (16 * (ρ 0) + 5)) (y' := ((ρ 10))) (by show 5 + (16 * ρ 0 + 0) = _; omega) (by show 0 + (1 * ρ 10 + 0) = _; omega) (hm _ (List.mem_cons_of_mem _ (List.mem_cons_of_mem _ (List.mem_cons_of_mem _ (List.mem_cons_of_mem _ (List.mem_cons_of_mem _ (List.mem_cons_of_mem _ List.mem_cons_self)))))))) (cvm (c := 9) (by decide) (x' := (3 * (ρ 4))) (y' := ((ρ 6) + 8 * (ρ 7))) (by show 0 + (3 * ρ 4 + 0) = _; omega) (by show 0 + (1 * ρ 6 + (8 * ρ 7 + 0)) = _; omega) (hm _ (List.mem_cons_of_mem _ (List.mem_cons_of_mem _ (List.mem_cons_of_mem _ (List.mem_cons_of_mem _ (List.mem_cons_of_mem _ (List.mem_cons_of_mem _ (List.mem_cons_of_mem _ List.mem_cons_self))))))))) (cvm (c := 9) (by decide) (x' := (3 * (ρ 4) + 1)) (y' := ((ρ 8) + 8 * (ρ 9))) (by show 1 + (3 * ρ 4 + 0) = _; omega) (by show 0 + (1 * ρ 8 + (8 * ρ 9 + 0)) = _; omega) (hm _ (List.mem_cons_of_mem _ (List.mem_cons_of_mem _ (List.mem_cons_of_mem _ (List.mem_cons_of_mem _ (List.mem_cons_of_mem _ (List.mem_cons_of_mem _ (List.mem_cons_of_mem _ (List.mem_cons_of_mem _ List.mem_cons_self)))))))))) (cvm (c := 9) (by decide) (x' := (3 * (ρ 4) + 2)) (y' := ((ρ 10))) (by show 2 + (3 * ρ 4 + 0) = _; omega) (by show 0 + (1 * ρ 10 + 0) = _; omega) (hm _ (List.mem_cons_of_mem _ (List.mem_cons_of_mem _ (List.mem_cons_of_mem _ (List.mem_cons_of_mem _ (List.mem_cons_of_mem _ (List.mem_cons_of_mem _ (List.mem_cons_of_mem _ (List.mem_cons_of_mem _ (List.mem_cons_of_mem _ List.mem_cons_self))))))))))) (by have h := hF _ List.mem_cons_self; have h : 0 ≤ 19 + ((-1) * ρ 4 + 0) := h; omega) hG
  obtain ⟨k0, -⟩ := H
  exact ⟨_, List.mem_cons_self, ρ, fun _ _ => rfl, (okM_c (pvp 56 (by show 0 + (4096 * ρ 0 + (1 * ρ 1 + 0)) = _; omega) (by show 32 + (1 * ρ 3 + (32 * ρ 4 + (1024 * ρ 5 + 0))) = _; omega) k0) okM_n), okB_n, okF_n⟩
-- cs0_0
theorem cr_319 (M : pM) (s0 s1 s2 s3 s4 : Int) (b0 : 0 ≤ s0 ∧ s0 ≤ 1900) (b1 : 0 ≤ s1 ∧ s1 ≤ 950) (b2 : 0 ≤ s2 ∧ s2 ≤ 12) (b3 : 0 ≤ s3 ∧ s3 ≤ 20) (b4 : 0 ≤ s4 ∧ s4 ≤ 4) (m0 : HP 54 (4096 * s0 + s1) (s2 + 32 * s3 + 1024 * s4) M) (hG : gI M) : (HP 85 (4096 * s0 + s1) (s2 + 32 * s3 + 1024 * s4) M ∧ True) := by
  exact ⟨Eq.mpr hp_85 (k_cs0 (Eq.mp hp_54 m0)), trivial⟩
theorem rul_319 : Rul r_319 := by
  refine ⟨fun _ ρ M hm hB hF hG => ?_, fun gi gv hg => (by cases hg)⟩
  have H := cr_319 M (ρ 0) (ρ 1) (ρ 2) (ρ 3) (ρ 4) (hB _ List.mem_cons_self) (hB _ (List.mem_cons_of_mem _ List.mem_cons_self)) (hB _ (List.mem_cons_of_mem _ (List.mem_cons_of_mem _ List.mem_cons_self))) (hB _ (List.mem_cons_of_mem _ (List.mem_cons_of_mem _ (List.mem_cons_of_mem _ List.mem_cons_self)))) (hB _ (List.mem_cons_of_mem _ (List.mem_cons_of_mem _ (List.mem_cons_of_mem _ (List.mem_cons_of_mem _ List.mem_cons_self))))) (cvp 54 (x' := (4096 * (ρ 0) + (ρ 1))) (y' := ((ρ 2) + 32 * (ρ 3) + 1024 * (ρ 4))) (by show 0 + (4096 * ρ 0 + (1 * ρ 1 + 0)) = _; omega) (by show 0 + (1 * ρ 2 + (32 * ρ 3 + (1024 * ρ 4 + 0))) = _; omega) (hm _ List.mem_cons_self)) hG
  obtain ⟨k0, -⟩ := H
  exact ⟨_, List.mem_cons_self, ρ, fun _ _ => rfl, (okM_c (pvp 85 (by show 0 + (4096 * ρ 0 + (1 * ρ 1 + 0)) = _; omega) (by show 0 + (1 * ρ 2 + (32 * ρ 3 + (1024 * ρ 4 + 0))) = _; omega) k0) okM_n), okB_n, okF_n⟩
-- csw_0
theorem cr_320 (M : pM) (s0 s1 s2 s3 s4 s5 s6 : Int) (b0 : 0 ≤ s0 ∧ s0 ≤ 1900) (b1 : 0 ≤ s1 ∧ s1 ≤ 950) (b2 : 0 ≤ s2 ∧ s2 ≤ 12) (b3 : 0 ≤ s3 ∧ s3 ≤ 20) (b4 : 0 ≤ s4 ∧ s4 ≤ 3) (b5 : 0 ≤ s5 ∧ s5 ≤ 3) (b6 : 0 ≤ s6 ∧ s6 ≤ 30) (m0 : HP 54 (4096 * s0 + s1) (s2 + 32 * s3 + 1024 * s4) M) (m1 : HP 85 (4096 * s0 + s1) (s2 + 32 * s3 + 1024 * s4 + 8192 * s5) M) (m2 : HP 79 (16 * s0 + s5 + 3) (s6) M) (hG : gI M) : (HP 54 (4096 * s0 + s1) (s2 + 32 * s3 + 1024 * s4) (st M 11 (5 * s4 + s5).toNat (s6)) ∧ HP 85 (4096 * s0 + s1) (s2 + 32 * s3 + 1024 * s4 + 8192 * s5 + 8192) (st M 11 (5 * s4 + s5).toNat (s6)) ∧ True) := by
  have hv := q79 (P := s0) (i := 3 + s5.toNat) m2 ⟨by omega, by omega⟩ (by omega)
  have hq : qRc 0 (st M 11 (5 * s4.toNat + s5.toNat) (s6)) = qU (qRc 0 M) 7 (5 * s4.toNat + s5.toNat) (s6) := qRc_st (b := 0) (k := 7)
  have ht : tm (st M 11 (5 * s4.toNat + s5.toNat) (s6)) = tm M := tm_st (by decide) (by decide)
  rw [show (5 * s4 + s5).toNat = 5 * s4.toNat + s5.toNat by omega]
  refine ⟨Eq.mpr hp_54 ?_, Eq.mpr hp_85 ?_, trivial⟩
  · rw [ht, hq]
    exact k_cah (w := s2) (r := s3) (g := s4) (Eq.mp hp_54 m0) (by omega) ⟨⟨by omega, by omega⟩, ⟨by omega, by omega⟩, by omega, by omega⟩ (by omega)
  · rw [ht, hq]
    exact k_csw (k := s5.toNat) (w := s2) (r := s3) (g := s4) (P := s0) (l := s1) (Eq.mp hp_85 m1) (by omega) ⟨⟨by omega, by omega⟩, ⟨by omega, by omega⟩, by omega, by omega⟩ (by omega) ⟨by omega, by omega, by omega⟩ (by rw [if_pos (by omega)]; exact hv) (by omega)
theorem rul_320 : Rul r_320 := by
  refine ⟨fun h => (by cases h), fun gi gv hg ρ M hm hB hF hG => ?_⟩
  obtain ⟨g1, g2⟩ := List.cons.inj (show ([aI ((0 : Int), ([(4, 5), (5, 1)] : List (Nat × Int))), aI ((0 : Int), ([(6, 1)] : List (Nat × Int)))] : List av) = [.inl gi, .inl gv] from hg)
  obtain ⟨g2, -⟩ := List.cons.inj g2
  cases g1
  cases g2
  have ei : ev ρ ((0 : Int), ([(4, 5), (5, 1)] : List (Nat × Int))) = (5 * (ρ 4) + (ρ 5)) := by show 0 + (5 * ρ 4 + (1 * ρ 5 + 0)) = _; omega
  have ew : ev ρ ((0 : Int), ([(6, 1)] : List (Nat × Int))) = ((ρ 6)) := by show 0 + (1 * ρ 6 + 0) = _; omega
  rw [show (st M (ctj r_320) (ev ρ ((0 : Int), ([(4, 5), (5, 1)] : List (Nat × Int)))).toNat (ev ρ ((0 : Int), ([(6, 1)] : List (Nat × Int))))) = (st M 11 (5 * (ρ 4) + (ρ 5)).toNat ((ρ 6))) from by rw [ei, ew]; rfl]
  have H := cr_320 M (ρ 0) (ρ 1) (ρ 2) (ρ 3) (ρ 4) (ρ 5) (ρ 6) (hB _ List.mem_cons_self) (hB _ (List.mem_cons_of_mem _ List.mem_cons_self)) (hB _ (List.mem_cons_of_mem _ (List.mem_cons_of_mem _ List.mem_cons_self))) (hB _ (List.mem_cons_of_mem _ (List.mem_cons_of_mem _ (List.mem_cons_of_mem _ List.mem_cons_self)))) (hB _ (List.mem_cons_of_mem _ (List.mem_cons_of_mem _ (List.mem_cons_of_mem _ (List.mem_cons_of_mem _ List.mem_cons_self))))) (hB _ (List.mem_cons_of_mem _ (List.mem_cons_of_mem _ (List.mem_cons_of_mem _ (List.mem_cons_of_mem _ (List.mem_cons_of_mem _ List.mem_cons_self)))))) (hB _ (List.mem_cons_of_mem _ (List.mem_cons_of_mem _ (List.mem_cons_of_mem _ (List.mem_cons_of_mem _ (List.mem_cons_of_mem _ (List.mem_cons_of_mem _ List.mem_cons_self))))))) (cvp 54 (x' := (4096 * (ρ 0) + (ρ 1))) (y' := ((ρ 2) + 32 * (ρ 3) + 1024 * (ρ 4))) (by show 0 + (4096 * ρ 0 + (1 * ρ 1 + 0)) = _; omega) (by show 0 + (1 * ρ 2 + (32 * ρ 3 + (1024 * ρ 4 + 0))) = _; omega) (hm _ List.mem_cons_self)) (cvp 85 (x' := (4096 * (ρ 0) + (ρ 1))) (y' := ((ρ 2) + 32 * (ρ 3) + 1024 * (ρ 4) + 8192 * (ρ 5))) (by show 0 + (4096 * ρ 0 + (1 * ρ 1 + 0)) = _; omega) (by show 0 + (1 * ρ 2 + (32 * ρ 3 + (1024 * ρ 4 + (8192 * ρ 5 + 0)))) = _; omega) (hm _ (List.mem_cons_of_mem _ List.mem_cons_self))) (cvp 79 (x' := (16 * (ρ 0) + (ρ 5) + 3)) (y' := ((ρ 6))) (by show 3 + (16 * ρ 0 + (1 * ρ 5 + 0)) = _; omega) (by show 0 + (1 * ρ 6 + 0) = _; omega) (hm _ (List.mem_cons_of_mem _ (List.mem_cons_of_mem _ List.mem_cons_self)))) hG
  obtain ⟨k0, k1, -⟩ := H
  exact ⟨_, List.mem_cons_self, ρ, fun _ _ => rfl, (okM_c (pvp 54 (by show 0 + (4096 * ρ 0 + (1 * ρ 1 + 0)) = _; omega) (by show 0 + (1 * ρ 2 + (32 * ρ 3 + (1024 * ρ 4 + 0))) = _; omega) k0) (okM_c (pvp 85 (by show 0 + (4096 * ρ 0 + (1 * ρ 1 + 0)) = _; omega) (by show 8192 + (1 * ρ 2 + (32 * ρ 3 + (1024 * ρ 4 + (8192 * ρ 5 + 0)))) = _; omega) k1) okM_n)), okB_n, okF_n⟩
-- chw_0
theorem cr_321 (M : pM) (s0 s1 s2 s3 s4 s5 : Int) (b0 : 0 ≤ s0 ∧ s0 ≤ 1900) (b1 : 0 ≤ s1 ∧ s1 ≤ 950) (b2 : 0 ≤ s2 ∧ s2 ≤ 12) (b3 : 0 ≤ s3 ∧ s3 ≤ 20) (b4 : 0 ≤ s4 ∧ s4 ≤ 3) (b5 : 50 ≤ s5 ∧ s5 ≤ 200) (m0 : HP 54 (4096 * s0 + s1) (s2 + 32 * s3 + 1024 * s4) M) (m1 : HP 85 (4096 * s0 + s1) (s2 + 32 * s3 + 1024 * s4 + 32768) M) (m2 : HP 79 (16 * s0 + 8) (s5) M) (hG : gI M) : (HP 54 (4096 * s0 + s1) (s2 + 32 * s3 + 1024 * s4) (st M 11 (5 * s4 + 4).toNat (s5)) ∧ HP 85 (4096 * s0 + s1) (s2 + 32 * s3 + 1024 * s4 + 40960) (st M 11 (5 * s4 + 4).toNat (s5)) ∧ True) := by
  have hv := q79 (P := s0) (i := 8) m2 ⟨by omega, by omega⟩ (by omega)
  have hq : qRc 0 (st M 11 (5 * s4.toNat + 4) (s5)) = qU (qRc 0 M) 7 (5 * s4.toNat + 4) (s5) := qRc_st (b := 0) (k := 7)
  have ht : tm (st M 11 (5 * s4.toNat + 4) (s5)) = tm M := tm_st (by decide) (by decide)
  rw [show (5 * s4 + 4).toNat = 5 * s4.toNat + 4 by omega]
  refine ⟨Eq.mpr hp_54 ?_, Eq.mpr hp_85 ?_, trivial⟩
  · rw [ht, hq]
    exact k_cah (w := s2) (r := s3) (g := s4) (Eq.mp hp_54 m0) (by omega) ⟨⟨by omega, by omega⟩, ⟨by omega, by omega⟩, by omega, by omega⟩ (by omega)
  · rw [ht, hq]
    exact k_csw (k := 4) (w := s2) (r := s3) (g := s4) (P := s0) (l := s1) (Eq.mp hp_85 m1) (by omega) ⟨⟨by omega, by omega⟩, ⟨by omega, by omega⟩, by omega, by omega⟩ (by omega) ⟨by omega, by omega, by omega⟩ (by rw [if_neg (by decide)]; exact hv) (by omega)
theorem rul_321 : Rul r_321 := by
  refine ⟨fun h => (by cases h), fun gi gv hg ρ M hm hB hF hG => ?_⟩
  obtain ⟨g1, g2⟩ := List.cons.inj (show ([aI ((4 : Int), ([(4, 5)] : List (Nat × Int))), aI ((0 : Int), ([(5, 1)] : List (Nat × Int)))] : List av) = [.inl gi, .inl gv] from hg)
  obtain ⟨g2, -⟩ := List.cons.inj g2
  cases g1
  cases g2
  have ei : ev ρ ((4 : Int), ([(4, 5)] : List (Nat × Int))) = (5 * (ρ 4) + 4) := by show 4 + (5 * ρ 4 + 0) = _; omega
  have ew : ev ρ ((0 : Int), ([(5, 1)] : List (Nat × Int))) = ((ρ 5)) := by show 0 + (1 * ρ 5 + 0) = _; omega
  rw [show (st M (ctj r_321) (ev ρ ((4 : Int), ([(4, 5)] : List (Nat × Int)))).toNat (ev ρ ((0 : Int), ([(5, 1)] : List (Nat × Int))))) = (st M 11 (5 * (ρ 4) + 4).toNat ((ρ 5))) from by rw [ei, ew]; rfl]
  have H := cr_321 M (ρ 0) (ρ 1) (ρ 2) (ρ 3) (ρ 4) (ρ 5) (hB _ List.mem_cons_self) (hB _ (List.mem_cons_of_mem _ List.mem_cons_self)) (hB _ (List.mem_cons_of_mem _ (List.mem_cons_of_mem _ List.mem_cons_self))) (hB _ (List.mem_cons_of_mem _ (List.mem_cons_of_mem _ (List.mem_cons_of_mem _ List.mem_cons_self)))) (hB _ (List.mem_cons_of_mem _ (List.mem_cons_of_mem _ (List.mem_cons_of_mem _ (List.mem_cons_of_mem _ List.mem_cons_self))))) (hB _ (List.mem_cons_of_mem _ (List.mem_cons_of_mem _ (List.mem_cons_of_mem _ (List.mem_cons_of_mem _ (List.mem_cons_of_mem _ List.mem_cons_self)))))) (cvp 54 (x' := (4096 * (ρ 0) + (ρ 1))) (y' := ((ρ 2) + 32 * (ρ 3) + 1024 * (ρ 4))) (by show 0 + (4096 * ρ 0 + (1 * ρ 1 + 0)) = _; omega) (by show 0 + (1 * ρ 2 + (32 * ρ 3 + (1024 * ρ 4 + 0))) = _; omega) (hm _ List.mem_cons_self)) (cvp 85 (x' := (4096 * (ρ 0) + (ρ 1))) (y' := ((ρ 2) + 32 * (ρ 3) + 1024 * (ρ 4) + 32768)) (by show 0 + (4096 * ρ 0 + (1 * ρ 1 + 0)) = _; omega) (by show 32768 + (1 * ρ 2 + (32 * ρ 3 + (1024 * ρ 4 + 0))) = _; omega) (hm _ (List.mem_cons_of_mem _ List.mem_cons_self))) (cvp 79 (x' := (16 * (ρ 0) + 8)) (y' := ((ρ 5))) (by show 8 + (16 * ρ 0 + 0) = _; omega) (by show 0 + (1 * ρ 5 + 0) = _; omega) (hm _ (List.mem_cons_of_mem _ (List.mem_cons_of_mem _ List.mem_cons_self)))) hG
  obtain ⟨k0, k1, -⟩ := H
  exact ⟨_, List.mem_cons_self, ρ, fun _ _ => rfl, (okM_c (pvp 54 (by show 0 + (4096 * ρ 0 + (1 * ρ 1 + 0)) = _; omega) (by show 0 + (1 * ρ 2 + (32 * ρ 3 + (1024 * ρ 4 + 0))) = _; omega) k0) (okM_c (pvp 85 (by show 0 + (4096 * ρ 0 + (1 * ρ 1 + 0)) = _; omega) (by show 40960 + (1 * ρ 2 + (32 * ρ 3 + (1024 * ρ 4 + 0))) = _; omega) k1) okM_n)), okB_n, okF_n⟩
-- fkid0_0
theorem cr_322 (M : pM) (s0 s1 s2 s3 : Int) (b0 : 0 ≤ s0 ∧ s0 ≤ 1900) (b1 : 0 ≤ s1 ∧ s1 ≤ 950) (b2 : 0 ≤ s2 ∧ s2 ≤ 1900) (m0 : HP 94 (4096 * s0 + s1) (s3) M) (m1 : HP 53 (4096 * s0 + s1) (256 * s2 + 3) M) (hG : gI M) : (HP 95 (4096 * s0 + s1) (s3) M ∧ True) := by
  exact ⟨Eq.mpr hp_95 (k_mid (K := 0) (Eq.mp hp_94 m0) (ex_o (K := 0) (j := 2) (a := s2) (Eq.mp hp_53 m1) ⟨by omega, by omega, by decide, by decide⟩) (fun _ _ => rfl)), trivial⟩
theorem rul_322 : Rul r_322 := by
  refine ⟨fun _ ρ M hm hB hF hG => ?_, fun gi gv hg => (by cases hg)⟩
  have H := cr_322 M (ρ 0) (ρ 1) (ρ 2) (ρ 3) (hB _ List.mem_cons_self) (hB _ (List.mem_cons_of_mem _ List.mem_cons_self)) (hB _ (List.mem_cons_of_mem _ (List.mem_cons_of_mem _ List.mem_cons_self))) (cvp 94 (x' := (4096 * (ρ 0) + (ρ 1))) (y' := ((ρ 3))) (by show 0 + (4096 * ρ 0 + (1 * ρ 1 + 0)) = _; omega) (by show 0 + (1 * ρ 3 + 0) = _; omega) (hm _ List.mem_cons_self)) (cvp 53 (x' := (4096 * (ρ 0) + (ρ 1))) (y' := (256 * (ρ 2) + 3)) (by show 0 + (4096 * ρ 0 + (1 * ρ 1 + 0)) = _; omega) (by show 3 + (256 * ρ 2 + 0) = _; omega) (hm _ (List.mem_cons_of_mem _ List.mem_cons_self))) hG
  obtain ⟨k0, -⟩ := H
  exact ⟨_, List.mem_cons_self, ρ, fun _ _ => rfl, (okM_c (pvp 95 (by show 0 + (4096 * ρ 0 + (1 * ρ 1 + 0)) = _; omega) (by show 0 + (1 * ρ 3 + 0) = _; omega) k0) okM_n), okB_n, okF_n⟩
-- fkid1_0
theorem cr_323 (M : pM) (s0 s1 s2 s3 : Int) (b0 : 0 ≤ s0 ∧ s0 ≤ 1900) (b1 : 0 ≤ s1 ∧ s1 ≤ 950) (b2 : 0 ≤ s2 ∧ s2 ≤ 1900) (m0 : HP 94 (4096 * s0 + s1) (s3) M) (m1 : HP 53 (4096 * s0 + s1) (256 * s2 + 24) M) (hG : gI M) : (HP 95 (4096 * s0 + s1) (s3) M ∧ True) := by
  exact ⟨Eq.mpr hp_95 (k_mid (K := 1) (Eq.mp hp_94 m0) (ex_o (K := 1) (j := 7) (a := s2) (Eq.mp hp_53 m1) ⟨by omega, by omega, by decide, by decide⟩) (fun _ _ => rfl)), trivial⟩
theorem rul_323 : Rul r_323 := by
  refine ⟨fun _ ρ M hm hB hF hG => ?_, fun gi gv hg => (by cases hg)⟩
  have H := cr_323 M (ρ 0) (ρ 1) (ρ 2) (ρ 3) (hB _ List.mem_cons_self) (hB _ (List.mem_cons_of_mem _ List.mem_cons_self)) (hB _ (List.mem_cons_of_mem _ (List.mem_cons_of_mem _ List.mem_cons_self))) (cvp 94 (x' := (4096 * (ρ 0) + (ρ 1))) (y' := ((ρ 3))) (by show 0 + (4096 * ρ 0 + (1 * ρ 1 + 0)) = _; omega) (by show 0 + (1 * ρ 3 + 0) = _; omega) (hm _ List.mem_cons_self)) (cvp 53 (x' := (4096 * (ρ 0) + (ρ 1))) (y' := (256 * (ρ 2) + 24)) (by show 0 + (4096 * ρ 0 + (1 * ρ 1 + 0)) = _; omega) (by show 24 + (256 * ρ 2 + 0) = _; omega) (hm _ (List.mem_cons_of_mem _ List.mem_cons_self))) hG
  obtain ⟨k0, -⟩ := H
  exact ⟨_, List.mem_cons_self, ρ, fun _ _ => rfl, (okM_c (pvp 95 (by show 0 + (4096 * ρ 0 + (1 * ρ 1 + 0)) = _; omega) (by show 0 + (1 * ρ 3 + 0) = _; omega) k0) okM_n), okB_n, okF_n⟩
-- fkid2_0
theorem cr_324 (M : pM) (s0 s1 s2 s3 : Int) (b0 : 0 ≤ s0 ∧ s0 ≤ 1900) (b1 : 0 ≤ s1 ∧ s1 ≤ 950) (b2 : 0 ≤ s2 ∧ s2 ≤ 1900) (m0 : HP 94 (4096 * s0 + s1) (s3) M) (m1 : HP 53 (4096 * s0 + s1) (256 * s2 + 36) M) (hG : gI M) : (HP 95 (4096 * s0 + s1) (s3) M ∧ True) := by
  exact ⟨Eq.mpr hp_95 (k_mid (K := 2) (Eq.mp hp_94 m0) (ex_o (K := 2) (j := 3) (a := s2) (Eq.mp hp_53 m1) ⟨by omega, by omega, by decide, by decide⟩) (fun _ _ => rfl)), trivial⟩
theorem rul_324 : Rul r_324 := by
  refine ⟨fun _ ρ M hm hB hF hG => ?_, fun gi gv hg => (by cases hg)⟩
  have H := cr_324 M (ρ 0) (ρ 1) (ρ 2) (ρ 3) (hB _ List.mem_cons_self) (hB _ (List.mem_cons_of_mem _ List.mem_cons_self)) (hB _ (List.mem_cons_of_mem _ (List.mem_cons_of_mem _ List.mem_cons_self))) (cvp 94 (x' := (4096 * (ρ 0) + (ρ 1))) (y' := ((ρ 3))) (by show 0 + (4096 * ρ 0 + (1 * ρ 1 + 0)) = _; omega) (by show 0 + (1 * ρ 3 + 0) = _; omega) (hm _ List.mem_cons_self)) (cvp 53 (x' := (4096 * (ρ 0) + (ρ 1))) (y' := (256 * (ρ 2) + 36)) (by show 0 + (4096 * ρ 0 + (1 * ρ 1 + 0)) = _; omega) (by show 36 + (256 * ρ 2 + 0) = _; omega) (hm _ (List.mem_cons_of_mem _ List.mem_cons_self))) hG
  obtain ⟨k0, -⟩ := H
  exact ⟨_, List.mem_cons_self, ρ, fun _ _ => rfl, (okM_c (pvp 95 (by show 0 + (4096 * ρ 0 + (1 * ρ 1 + 0)) = _; omega) (by show 0 + (1 * ρ 3 + 0) = _; omega) k0) okM_n), okB_n, okF_n⟩
-- fkid3_0
theorem cr_325 (M : pM) (s0 s1 s2 s3 : Int) (b0 : 0 ≤ s0 ∧ s0 ≤ 1900) (b1 : 0 ≤ s1 ∧ s1 ≤ 950) (b2 : 0 ≤ s2 ∧ s2 ≤ 1900) (m0 : HP 94 (4096 * s0 + s1) (s3) M) (m1 : HP 53 (4096 * s0 + s1) (256 * s2 + 51) M) (hG : gI M) : (HP 95 (4096 * s0 + s1) (s3) M ∧ True) := by
  exact ⟨Eq.mpr hp_95 (k_mid (K := 3) (Eq.mp hp_94 m0) (ex_o (K := 3) (j := 2) (a := s2) (Eq.mp hp_53 m1) ⟨by omega, by omega, by decide, by decide⟩) (fun _ _ => rfl)), trivial⟩
theorem rul_325 : Rul r_325 := by
  refine ⟨fun _ ρ M hm hB hF hG => ?_, fun gi gv hg => (by cases hg)⟩
  have H := cr_325 M (ρ 0) (ρ 1) (ρ 2) (ρ 3) (hB _ List.mem_cons_self) (hB _ (List.mem_cons_of_mem _ List.mem_cons_self)) (hB _ (List.mem_cons_of_mem _ (List.mem_cons_of_mem _ List.mem_cons_self))) (cvp 94 (x' := (4096 * (ρ 0) + (ρ 1))) (y' := ((ρ 3))) (by show 0 + (4096 * ρ 0 + (1 * ρ 1 + 0)) = _; omega) (by show 0 + (1 * ρ 3 + 0) = _; omega) (hm _ List.mem_cons_self)) (cvp 53 (x' := (4096 * (ρ 0) + (ρ 1))) (y' := (256 * (ρ 2) + 51)) (by show 0 + (4096 * ρ 0 + (1 * ρ 1 + 0)) = _; omega) (by show 51 + (256 * ρ 2 + 0) = _; omega) (hm _ (List.mem_cons_of_mem _ List.mem_cons_self))) hG
  obtain ⟨k0, -⟩ := H
  exact ⟨_, List.mem_cons_self, ρ, fun _ _ => rfl, (okM_c (pvp 95 (by show 0 + (4096 * ρ 0 + (1 * ρ 1 + 0)) = _; omega) (by show 0 + (1 * ρ 3 + 0) = _; omega) k0) okM_n), okB_n, okF_n⟩
-- fkid4_0
theorem cr_326 (M : pM) (s0 s1 s2 s3 : Int) (b0 : 0 ≤ s0 ∧ s0 ≤ 1900) (b1 : 0 ≤ s1 ∧ s1 ≤ 950) (b2 : 0 ≤ s2 ∧ s2 ≤ 1900) (m0 : HP 94 (4096 * s0 + s1) (s3) M) (m1 : HP 53 (4096 * s0 + s1) (256 * s2 + 73) M) (hG : gI M) : (HP 95 (4096 * s0 + s1) (s3) M ∧ True) := by
  exact ⟨Eq.mpr hp_95 (k_mid (K := 4) (Eq.mp hp_94 m0) (ex_o (K := 4) (j := 8) (a := s2) (Eq.mp hp_53 m1) ⟨by omega, by omega, by decide, by decide⟩) (fun _ _ => rfl)), trivial⟩
theorem rul_326 : Rul r_326 := by
  refine ⟨fun _ ρ M hm hB hF hG => ?_, fun gi gv hg => (by cases hg)⟩
  have H := cr_326 M (ρ 0) (ρ 1) (ρ 2) (ρ 3) (hB _ List.mem_cons_self) (hB _ (List.mem_cons_of_mem _ List.mem_cons_self)) (hB _ (List.mem_cons_of_mem _ (List.mem_cons_of_mem _ List.mem_cons_self))) (cvp 94 (x' := (4096 * (ρ 0) + (ρ 1))) (y' := ((ρ 3))) (by show 0 + (4096 * ρ 0 + (1 * ρ 1 + 0)) = _; omega) (by show 0 + (1 * ρ 3 + 0) = _; omega) (hm _ List.mem_cons_self)) (cvp 53 (x' := (4096 * (ρ 0) + (ρ 1))) (y' := (256 * (ρ 2) + 73)) (by show 0 + (4096 * ρ 0 + (1 * ρ 1 + 0)) = _; omega) (by show 73 + (256 * ρ 2 + 0) = _; omega) (hm _ (List.mem_cons_of_mem _ List.mem_cons_self))) hG
  obtain ⟨k0, -⟩ := H
  exact ⟨_, List.mem_cons_self, ρ, fun _ _ => rfl, (okM_c (pvp 95 (by show 0 + (4096 * ρ 0 + (1 * ρ 1 + 0)) = _; omega) (by show 0 + (1 * ρ 3 + 0) = _; omega) k0) okM_n), okB_n, okF_n⟩
-- fkid9_0
theorem cr_327 (M : pM) (s0 s1 s2 s3 : Int) (b0 : 0 ≤ s0 ∧ s0 ≤ 1900) (b1 : 0 ≤ s1 ∧ s1 ≤ 950) (b2 : 0 ≤ s2 ∧ s2 ≤ 1900) (m0 : HP 94 (4096 * s0 + s1) (s3) M) (m1 : HP 53 (4096 * s0 + s1) (256 * s2 + 150) M) (hG : gI M) : (HP 95 (4096 * s0 + s1) (s3) M ∧ True) := by
  exact ⟨Eq.mpr hp_95 (k_mid (K := 9) (Eq.mp hp_94 m0) (ex_o (K := 9) (j := 5) (a := s2) (Eq.mp hp_53 m1) ⟨by omega, by omega, by decide, by decide⟩) (fun _ _ => rfl)), trivial⟩
theorem rul_327 : Rul r_327 := by
  refine ⟨fun _ ρ M hm hB hF hG => ?_, fun gi gv hg => (by cases hg)⟩
  have H := cr_327 M (ρ 0) (ρ 1) (ρ 2) (ρ 3) (hB _ List.mem_cons_self) (hB _ (List.mem_cons_of_mem _ List.mem_cons_self)) (hB _ (List.mem_cons_of_mem _ (List.mem_cons_of_mem _ List.mem_cons_self))) (cvp 94 (x' := (4096 * (ρ 0) + (ρ 1))) (y' := ((ρ 3))) (by show 0 + (4096 * ρ 0 + (1 * ρ 1 + 0)) = _; omega) (by show 0 + (1 * ρ 3 + 0) = _; omega) (hm _ List.mem_cons_self)) (cvp 53 (x' := (4096 * (ρ 0) + (ρ 1))) (y' := (256 * (ρ 2) + 150)) (by show 0 + (4096 * ρ 0 + (1 * ρ 1 + 0)) = _; omega) (by show 150 + (256 * ρ 2 + 0) = _; omega) (hm _ (List.mem_cons_of_mem _ List.mem_cons_self))) hG
  obtain ⟨k0, -⟩ := H
  exact ⟨_, List.mem_cons_self, ρ, fun _ _ => rfl, (okM_c (pvp 95 (by show 0 + (4096 * ρ 0 + (1 * ρ 1 + 0)) = _; omega) (by show 0 + (1 * ρ 3 + 0) = _; omega) k0) okM_n), okB_n, okF_n⟩
-- fkid10_0
theorem cr_328 (M : pM) (s0 s1 s2 s3 : Int) (b0 : 0 ≤ s0 ∧ s0 ≤ 1900) (b1 : 0 ≤ s1 ∧ s1 ≤ 950) (b2 : 0 ≤ s2 ∧ s2 ≤ 1900) (m0 : HP 94 (4096 * s0 + s1) (s3) M) (m1 : HP 53 (4096 * s0 + s1) (256 * s2 + 169) M) (hG : gI M) : (HP 95 (4096 * s0 + s1) (s3) M ∧ True) := by
  exact ⟨Eq.mpr hp_95 (k_mid (K := 10) (Eq.mp hp_94 m0) (ex_o (K := 10) (j := 8) (a := s2) (Eq.mp hp_53 m1) ⟨by omega, by omega, by decide, by decide⟩) (fun _ _ => rfl)), trivial⟩
theorem rul_328 : Rul r_328 := by
  refine ⟨fun _ ρ M hm hB hF hG => ?_, fun gi gv hg => (by cases hg)⟩
  have H := cr_328 M (ρ 0) (ρ 1) (ρ 2) (ρ 3) (hB _ List.mem_cons_self) (hB _ (List.mem_cons_of_mem _ List.mem_cons_self)) (hB _ (List.mem_cons_of_mem _ (List.mem_cons_of_mem _ List.mem_cons_self))) (cvp 94 (x' := (4096 * (ρ 0) + (ρ 1))) (y' := ((ρ 3))) (by show 0 + (4096 * ρ 0 + (1 * ρ 1 + 0)) = _; omega) (by show 0 + (1 * ρ 3 + 0) = _; omega) (hm _ List.mem_cons_self)) (cvp 53 (x' := (4096 * (ρ 0) + (ρ 1))) (y' := (256 * (ρ 2) + 169)) (by show 0 + (4096 * ρ 0 + (1 * ρ 1 + 0)) = _; omega) (by show 169 + (256 * ρ 2 + 0) = _; omega) (hm _ (List.mem_cons_of_mem _ List.mem_cons_self))) hG
  obtain ⟨k0, -⟩ := H
  exact ⟨_, List.mem_cons_self, ρ, fun _ _ => rfl, (okM_c (pvp 95 (by show 0 + (4096 * ρ 0 + (1 * ρ 1 + 0)) = _; omega) (by show 0 + (1 * ρ 3 + 0) = _; omega) k0) okM_n), okB_n, okF_n⟩
-- cwf_0
theorem cr_329 (M : pM) (s0 s1 s2 s3 s4 s5 : Int) (b0 : 0 ≤ s0 ∧ s0 ≤ 1900) (b1 : 0 ≤ s1 ∧ s1 ≤ 950) (b2 : 0 ≤ s2 ∧ s2 ≤ 1900) (b3 : 0 ≤ s3 ∧ s3 ≤ 12) (b4 : 0 ≤ s4 ∧ s4 ≤ 20) (b5 : 0 ≤ s5 ∧ s5 ≤ 4) (m0 : HP 54 (4096 * s0 + s1) (s3 + 32 * s4 + 1024 * s5) M) (m1 : HP 53 (4096 * s0 + s1) (256 * s2 + 131) M) (hG : gI M) : (HP 56 (4096 * s0 + s1) (s3 + 32 * s4 + 1024 * s5) M ∧ True) := by
  exact ⟨Eq.mpr hp_56 (k_cwf (Eq.mp hp_54 m0) (ex_o (K := 8) (j := 2) (a := s2) (Eq.mp hp_53 m1) ⟨by omega, by omega, by decide, by decide⟩)), trivial⟩
theorem rul_329 : Rul r_329 := by
  refine ⟨fun _ ρ M hm hB hF hG => ?_, fun gi gv hg => (by cases hg)⟩
  have H := cr_329 M (ρ 0) (ρ 1) (ρ 2) (ρ 3) (ρ 4) (ρ 5) (hB _ List.mem_cons_self) (hB _ (List.mem_cons_of_mem _ List.mem_cons_self)) (hB _ (List.mem_cons_of_mem _ (List.mem_cons_of_mem _ List.mem_cons_self))) (hB _ (List.mem_cons_of_mem _ (List.mem_cons_of_mem _ (List.mem_cons_of_mem _ List.mem_cons_self)))) (hB _ (List.mem_cons_of_mem _ (List.mem_cons_of_mem _ (List.mem_cons_of_mem _ (List.mem_cons_of_mem _ List.mem_cons_self))))) (hB _ (List.mem_cons_of_mem _ (List.mem_cons_of_mem _ (List.mem_cons_of_mem _ (List.mem_cons_of_mem _ (List.mem_cons_of_mem _ List.mem_cons_self)))))) (cvp 54 (x' := (4096 * (ρ 0) + (ρ 1))) (y' := ((ρ 3) + 32 * (ρ 4) + 1024 * (ρ 5))) (by show 0 + (4096 * ρ 0 + (1 * ρ 1 + 0)) = _; omega) (by show 0 + (1 * ρ 3 + (32 * ρ 4 + (1024 * ρ 5 + 0))) = _; omega) (hm _ List.mem_cons_self)) (cvp 53 (x' := (4096 * (ρ 0) + (ρ 1))) (y' := (256 * (ρ 2) + 131)) (by show 0 + (4096 * ρ 0 + (1 * ρ 1 + 0)) = _; omega) (by show 131 + (256 * ρ 2 + 0) = _; omega) (hm _ (List.mem_cons_of_mem _ List.mem_cons_self))) hG
  obtain ⟨k0, -⟩ := H
  exact ⟨_, List.mem_cons_self, ρ, fun _ _ => rfl, (okM_c (pvp 56 (by show 0 + (4096 * ρ 0 + (1 * ρ 1 + 0)) = _; omega) (by show 0 + (1 * ρ 3 + (32 * ρ 4 + (1024 * ρ 5 + 0))) = _; omega) k0) okM_n), okB_n, okF_n⟩
-- semi_0
theorem cr_330 (M : pM) (s0 s1 s2 s3 s4 s5 s6 s7 s8 s9 : Int) (b0 : 0 ≤ s0 ∧ s0 ≤ 1900) (b1 : 0 ≤ s1 ∧ s1 ≤ 950) (b2 : 0 ≤ s2 ∧ s2 ≤ 1900) (b3 : 0 ≤ s3 ∧ s3 ≤ 1900) (b4 : 0 ≤ s4 ∧ s4 ≤ 12) (b5 : 0 ≤ s5 ∧ s5 ≤ 20) (b6 : 0 ≤ s6 ∧ s6 ≤ 4) (b7 : (-2147483648) ≤ s7 ∧ s7 ≤ 2147483647) (b8 : (-2147483648) ≤ s8 ∧ s8 ≤ 2147483647) (m0 : HP 89 (4096 * s0 + s1) (s2) M) (m1 : HP 47 (s2) (524347 : Int) M) (m2 : HP 46 (s2) (s3) M) (m3 : HP 56 (4096 * s0 + s1) (s4 + 32 * s5 + 1024 * s6) M) (m4 : HP 73 (4096 * s0 + s1) (s7) M) (m5 : HP 74 (4096 * s0 + s1) (s8) M) (m6 : HP 95 (4096 * s0 + s1) (s9) M) (hG : gI M) : (HP 54 (s1 + 4096 * s3 + 1) (s4 + 32 * s5 + 1024 * s6) M ∧ HP 71 (s1 + 4096 * s3 + 1) (s7) M ∧ HP 72 (s1 + 4096 * s3 + 1) (s8) M ∧ HP 94 (s1 + 4096 * s3 + 1) (s9) M ∧ 0 ≤ ((-1) * s1 + 949) ∧ True) := by
  obtain ⟨k1, k2⟩ := k_semi (P := s0) (l := s1) (x' := (s1 + 4096 * s3 + 1)) (Eq.mp hp_56 m3)  (Eq.mp hp_89 m0) (by omega) ⟨by omega, by omega, by omega⟩ (q47 m1).2 (q46 m2).2 (by omega) (by omega)
  exact ⟨Eq.mpr hp_54 k1, Eq.mpr hp_71 (k_semiM (P := s0) (l := s1) (Eq.mp hp_73 m4)  (Eq.mp hp_89 m0) (by omega) ⟨by omega, by omega, by omega⟩ (q47 m1).2 (q46 m2).2 (by omega) (by omega)), Eq.mpr hp_72 (k_semiM (P := s0) (l := s1) (Eq.mp hp_74 m5)  (Eq.mp hp_89 m0) (by omega) ⟨by omega, by omega, by omega⟩ (q47 m1).2 (q46 m2).2 (by omega) (by omega)), Eq.mpr hp_94 (k_semiM (P := s0) (l := s1) (Eq.mp hp_95 m6)  (Eq.mp hp_89 m0) (by omega) ⟨by omega, by omega, by omega⟩ (q47 m1).2 (q46 m2).2 (by omega) (by omega)), by omega, trivial⟩
theorem rul_330 : Rul r_330 := by
  refine ⟨fun _ ρ M hm hB hF hG => ?_, fun gi gv hg => (by cases hg)⟩
  have H := cr_330 M (ρ 0) (ρ 1) (ρ 2) (ρ 3) (ρ 4) (ρ 5) (ρ 6) (ρ 7) (ρ 8) (ρ 9) (hB _ List.mem_cons_self) (hB _ (List.mem_cons_of_mem _ List.mem_cons_self)) (hB _ (List.mem_cons_of_mem _ (List.mem_cons_of_mem _ List.mem_cons_self))) (hB _ (List.mem_cons_of_mem _ (List.mem_cons_of_mem _ (List.mem_cons_of_mem _ List.mem_cons_self)))) (hB _ (List.mem_cons_of_mem _ (List.mem_cons_of_mem _ (List.mem_cons_of_mem _ (List.mem_cons_of_mem _ List.mem_cons_self))))) (hB _ (List.mem_cons_of_mem _ (List.mem_cons_of_mem _ (List.mem_cons_of_mem _ (List.mem_cons_of_mem _ (List.mem_cons_of_mem _ List.mem_cons_self)))))) (hB _ (List.mem_cons_of_mem _ (List.mem_cons_of_mem _ (List.mem_cons_of_mem _ (List.mem_cons_of_mem _ (List.mem_cons_of_mem _ (List.mem_cons_of_mem _ List.mem_cons_self))))))) (hB _ (List.mem_cons_of_mem _ (List.mem_cons_of_mem _ (List.mem_cons_of_mem _ (List.mem_cons_of_mem _ (List.mem_cons_of_mem _ (List.mem_cons_of_mem _ (List.mem_cons_of_mem _ List.mem_cons_self)))))))) (hB _ (List.mem_cons_of_mem _ (List.mem_cons_of_mem _ (List.mem_cons_of_mem _ (List.mem_cons_of_mem _ (List.mem_cons_of_mem _ (List.mem_cons_of_mem _ (List.mem_cons_of_mem _ (List.mem_cons_of_mem _ List.mem_cons_self))))))))) (cvp 89 (x' := (4096 * (ρ 0) + (ρ 1))) (y' := ((ρ 2))) (by show 0 + (4096 * ρ 0 + (1 * ρ 1 + 0)) = _; omega) (by show 0 + (1 * ρ 2 + 0) = _; omega) (hm _ List.mem_cons_self)) (cvp 47 (x' := ((ρ 2))) (y' := (524347 : Int)) (by show 0 + (1 * ρ 2 + 0) = _; omega) (by show 524347 + 0 = _; omega) (hm _ (List.mem_cons_of_mem _ List.mem_cons_self))) (cvp 46 (x' := ((ρ 2))) (y' := ((ρ 3))) (by show 0 + (1 * ρ 2 + 0) = _; omega) (by show 0 + (1 * ρ 3 + 0) = _; omega) (hm _ (List.mem_cons_of_mem _ (List.mem_cons_of_mem _ List.mem_cons_self)))) (cvp 56 (x' := (4096 * (ρ 0) + (ρ 1))) (y' := ((ρ 4) + 32 * (ρ 5) + 1024 * (ρ 6))) (by show 0 + (4096 * ρ 0 + (1 * ρ 1 + 0)) = _; omega) (by show 0 + (1 * ρ 4 + (32 * ρ 5 + (1024 * ρ 6 + 0))) = _; omega) (hm _ (List.mem_cons_of_mem _ (List.mem_cons_of_mem _ (List.mem_cons_of_mem _ List.mem_cons_self))))) (cvp 73 (x' := (4096 * (ρ 0) + (ρ 1))) (y' := ((ρ 7))) (by show 0 + (4096 * ρ 0 + (1 * ρ 1 + 0)) = _; omega) (by show 0 + (1 * ρ 7 + 0) = _; omega) (hm _ (List.mem_cons_of_mem _ (List.mem_cons_of_mem _ (List.mem_cons_of_mem _ (List.mem_cons_of_mem _ List.mem_cons_self)))))) (cvp 74 (x' := (4096 * (ρ 0) + (ρ 1))) (y' := ((ρ 8))) (by show 0 + (4096 * ρ 0 + (1 * ρ 1 + 0)) = _; omega) (by show 0 + (1 * ρ 8 + 0) = _; omega) (hm _ (List.mem_cons_of_mem _ (List.mem_cons_of_mem _ (List.mem_cons_of_mem _ (List.mem_cons_of_mem _ (List.mem_cons_of_mem _ List.mem_cons_self))))))) (cvp 95 (x' := (4096 * (ρ 0) + (ρ 1))) (y' := ((ρ 9))) (by show 0 + (4096 * ρ 0 + (1 * ρ 1 + 0)) = _; omega) (by show 0 + (1 * ρ 9 + 0) = _; omega) (hm _ (List.mem_cons_of_mem _ (List.mem_cons_of_mem _ (List.mem_cons_of_mem _ (List.mem_cons_of_mem _ (List.mem_cons_of_mem _ (List.mem_cons_of_mem _ List.mem_cons_self)))))))) hG
  obtain ⟨k0, k1, k2, k3, f0, -⟩ := H
  exact ⟨_, List.mem_cons_self, ρ, fun _ _ => rfl, (okM_c (pvp 54 (by show 1 + (1 * ρ 1 + (4096 * ρ 3 + 0)) = _; omega) (by show 0 + (1 * ρ 4 + (32 * ρ 5 + (1024 * ρ 6 + 0))) = _; omega) k0) (okM_c (pvp 71 (by show 1 + (1 * ρ 1 + (4096 * ρ 3 + 0)) = _; omega) (by show 0 + (1 * ρ 7 + 0) = _; omega) k1) (okM_c (pvp 72 (by show 1 + (1 * ρ 1 + (4096 * ρ 3 + 0)) = _; omega) (by show 0 + (1 * ρ 8 + 0) = _; omega) k2) (okM_c (pvp 94 (by show 1 + (1 * ρ 1 + (4096 * ρ 3 + 0)) = _; omega) (by show 0 + (1 * ρ 9 + 0) = _; omega) k3) okM_n)))), okB_n, (okF_c (by show 0 ≤ 949 + ((-1) * ρ 1 + 0); omega) okF_n)⟩
-- cend_0
theorem cr_331 (M : pM) (s0 s1 s2 s3 s4 : Int) (b0 : 0 ≤ s0 ∧ s0 ≤ 1900) (b1 : 0 ≤ s1 ∧ s1 ≤ 950) (b2 : 0 ≤ s2 ∧ s2 ≤ 12) (b3 : 0 ≤ s3 ∧ s3 ≤ 20) (b4 : 0 ≤ s4 ∧ s4 ≤ 4) (m0 : HP 54 (4096 * s0 + s1) (s2 + 32 * s3 + 1024 * s4) M) (m1 : HP 47 (s0) (131071 : Int) M) (m2 : (0 ≤ (7 : Int) ∧ M 3 (7 : Int).toNat = (s2))) (m3 : (0 ≤ (10 : Int) ∧ M 3 (10 : Int).toNat = (s3))) (m4 : (0 ≤ (13 : Int) ∧ M 3 (13 : Int).toNat = (s4))) (hG : gI M) : (HP 58 (s1) (s2 + 32 * s3 + 1024 * s4) M ∧ True) := by
  have f0_ : M 3 7 = s2 := m2.2
  have f1_ : M 3 10 = s3 := m3.2
  have f2_ : M 3 13 = s4 := m4.2
  refine ⟨Eq.mpr hp_58 ⟨k_cend (P := s0) (l := s1) (Eq.mp hp_54 m0) ⟨by omega, by omega, by omega⟩ (q47 m1).2, ?_⟩, trivial⟩
  show _ = M (3 + 9 * 0) 7 + 32 * M (3 + 9 * 0) 10 + 1024 * M (3 + 9 * 0) 13 ∧ (0 ≤ M (3 + 9 * 0) 7 ∧ M (3 + 9 * 0) 7 ≤ 12) ∧ (0 ≤ M (3 + 9 * 0) 10 ∧ M (3 + 9 * 0) 10 ≤ 20) ∧ 0 ≤ M (3 + 9 * 0) 13 ∧ M (3 + 9 * 0) 13 ≤ 4
  rw [show M (3 + 9 * 0) 7 = s2 from f0_]
  rw [show M (3 + 9 * 0) 10 = s3 from f1_]
  rw [show M (3 + 9 * 0) 13 = s4 from f2_]
  omega
theorem rul_331 : Rul r_331 := by
  refine ⟨fun _ ρ M hm hB hF hG => ?_, fun gi gv hg => (by cases hg)⟩
  have H := cr_331 M (ρ 0) (ρ 1) (ρ 2) (ρ 3) (ρ 4) (hB _ List.mem_cons_self) (hB _ (List.mem_cons_of_mem _ List.mem_cons_self)) (hB _ (List.mem_cons_of_mem _ (List.mem_cons_of_mem _ List.mem_cons_self))) (hB _ (List.mem_cons_of_mem _ (List.mem_cons_of_mem _ (List.mem_cons_of_mem _ List.mem_cons_self)))) (hB _ (List.mem_cons_of_mem _ (List.mem_cons_of_mem _ (List.mem_cons_of_mem _ (List.mem_cons_of_mem _ List.mem_cons_self))))) (cvp 54 (x' := (4096 * (ρ 0) + (ρ 1))) (y' := ((ρ 2) + 32 * (ρ 3) + 1024 * (ρ 4))) (by show 0 + (4096 * ρ 0 + (1 * ρ 1 + 0)) = _; omega) (by show 0 + (1 * ρ 2 + (32 * ρ 3 + (1024 * ρ 4 + 0))) = _; omega) (hm _ List.mem_cons_self)) (cvp 47 (x' := ((ρ 0))) (y' := (131071 : Int)) (by show 0 + (1 * ρ 0 + 0) = _; omega) (by show 131071 + 0 = _; omega) (hm _ (List.mem_cons_of_mem _ List.mem_cons_self))) (cvm (c := 3) (by decide) (x' := (7 : Int)) (y' := ((ρ 2))) (by show 7 + 0 = _; omega) (by show 0 + (1 * ρ 2 + 0) = _; omega) (hm _ (List.mem_cons_of_mem _ (List.mem_cons_of_mem _ List.mem_cons_self)))) (cvm (c := 3) (by decide) (x' := (10 : Int)) (y' := ((ρ 3))) (by show 10 + 0 = _; omega) (by show 0 + (1 * ρ 3 + 0) = _; omega) (hm _ (List.mem_cons_of_mem _ (List.mem_cons_of_mem _ (List.mem_cons_of_mem _ List.mem_cons_self))))) (cvm (c := 3) (by decide) (x' := (13 : Int)) (y' := ((ρ 4))) (by show 13 + 0 = _; omega) (by show 0 + (1 * ρ 4 + 0) = _; omega) (hm _ (List.mem_cons_of_mem _ (List.mem_cons_of_mem _ (List.mem_cons_of_mem _ (List.mem_cons_of_mem _ List.mem_cons_self)))))) hG
  obtain ⟨k0, -⟩ := H
  exact ⟨_, List.mem_cons_self, ρ, fun _ _ => rfl, (okM_c (pvp 58 (by show 0 + (1 * ρ 1 + 0) = _; omega) (by show 0 + (1 * ρ 2 + (32 * ρ 3 + (1024 * ρ 4 + 0))) = _; omega) k0) okM_n), okB_n, okF_n⟩
-- cg0_1
theorem cr_332 (M : pM) (s0 s1 s2 s3 s4 s5 : Int) (b0 : 0 ≤ s0 ∧ s0 ≤ 1900) (b1 : 0 ≤ s1 ∧ s1 ≤ 950) (b2 : 0 ≤ s2 ∧ s2 ≤ 12) (b3 : 0 ≤ s3 ∧ s3 ≤ 20) (b4 : 0 ≤ s4 ∧ s4 ≤ 4) (b5 : 0 ≤ s5 ∧ s5 ≤ 7) (m0 : HP 55 (4096 * s0 + s1) (s2 + 32 * s3 + 1024 * s4) M) (hG : gI M) : (HP 82 (4096 * s0 + s1) (s2 + 32 * s3 + 1024 * s4 + 131072 * s5) M ∧ True) := by
  exact ⟨Eq.mpr hp_82 (k_cg0 (u := s5.toNat) (Eq.mp hp_55 m0) (by omega)), trivial⟩
theorem rul_332 : Rul r_332 := by
  refine ⟨fun _ ρ M hm hB hF hG => ?_, fun gi gv hg => (by cases hg)⟩
  have H := cr_332 M (ρ 0) (ρ 1) (ρ 2) (ρ 3) (ρ 4) (ρ 5) (hB _ List.mem_cons_self) (hB _ (List.mem_cons_of_mem _ List.mem_cons_self)) (hB _ (List.mem_cons_of_mem _ (List.mem_cons_of_mem _ List.mem_cons_self))) (hB _ (List.mem_cons_of_mem _ (List.mem_cons_of_mem _ (List.mem_cons_of_mem _ List.mem_cons_self)))) (hB _ (List.mem_cons_of_mem _ (List.mem_cons_of_mem _ (List.mem_cons_of_mem _ (List.mem_cons_of_mem _ List.mem_cons_self))))) (hB _ (List.mem_cons_of_mem _ (List.mem_cons_of_mem _ (List.mem_cons_of_mem _ (List.mem_cons_of_mem _ (List.mem_cons_of_mem _ List.mem_cons_self)))))) (cvp 55 (x' := (4096 * (ρ 0) + (ρ 1))) (y' := ((ρ 2) + 32 * (ρ 3) + 1024 * (ρ 4))) (by show 0 + (4096 * ρ 0 + (1 * ρ 1 + 0)) = _; omega) (by show 0 + (1 * ρ 2 + (32 * ρ 3 + (1024 * ρ 4 + 0))) = _; omega) (hm _ List.mem_cons_self)) hG
  obtain ⟨k0, -⟩ := H
  exact ⟨_, List.mem_cons_self, ρ, fun _ _ => rfl, (okM_c (pvp 82 (by show 0 + (4096 * ρ 0 + (1 * ρ 1 + 0)) = _; omega) (by show 0 + (1 * ρ 2 + (32 * ρ 3 + (1024 * ρ 4 + (131072 * ρ 5 + 0)))) = _; omega) k0) okM_n), okB_n, okF_n⟩
-- cgw_1
theorem cr_333 (M : pM) (s0 s1 s2 s3 s4 s5 s6 s7 s8 s9 : Int) (b0 : 0 ≤ s0 ∧ s0 ≤ 1900) (b1 : 0 ≤ s1 ∧ s1 ≤ 950) (b2 : 0 ≤ s2 ∧ s2 ≤ 1900) (b3 : 0 ≤ s3 ∧ s3 ≤ 12) (b4 : 0 ≤ s4 ∧ s4 ≤ 20) (b5 : 0 ≤ s5 ∧ s5 ≤ 4) (b6 : 0 ≤ s6 ∧ s6 ≤ 7) (b7 : 0 ≤ s7 ∧ s7 ≤ 7) (b8 : 0 ≤ s8 ∧ s8 ≤ 1900) (b9 : 97 ≤ s9 ∧ s9 ≤ 104) (m0 : HP 82 (4096 * s0 + s1) (s3 + 32 * s4 + 1024 * s5 + 8192 * s6 + 131072 * s7) M) (m1 : HP 53 (4096 * s0 + s1) (256 * s2 + 2) M) (m2 : HP 45 (s2) (s8) M) (m3 : (0 ≤ (s6 + s8) ∧ M 1 (s6 + s8).toNat = (s9))) (hG : gI M) : (HP 82 (4096 * s0 + s1) (s3 + 32 * s4 + 1024 * s5 + 8192 * s6 + 131072 * s7 + 8192) (st M 13 (s6 + 8 * s7).toNat (s9 - 97)) ∧ True) := by
  have hv : ∀ s, qat (tm M) (4096 * s0 + s1) s → (s9 - 97) = qlt (tm M) s.1 2 s6.toNat - 97 := by
    intro s hs
    obtain ⟨S2, hS2, hE2⟩ := ex_o (K := 0) (j := 1) (a := s2) (Eq.mp hp_53 m1) ⟨by omega, by omega, by decide, by decide⟩
    have e2 := qat_u hS2 hs
    subst e2
    have ha2 : s2 = (qps (tm M) s.1 2 : Int) := hE2.2.2.2.2
    have g1 := (q45 m2).2
    have hr := rd1 m3 (by omega)
    unfold qlt
    rw [show qps (tm M) s.1 2 = s2.toNat by omega, show tS (tm M) s2.toNat + s6.toNat = (s6 + s8).toNat by omega, hr]
  have hq : qRc 1 (st M 13 (8 * s7.toNat + s6.toNat) (s9 - 97)) = qU (qRc 1 M) 0 (8 * s7.toNat + s6.toNat) (s9 - 97) := qRc_st (b := 1) (k := 0)
  have ht : tm (st M 13 (8 * s7.toNat + s6.toNat) (s9 - 97)) = tm M := tm_st (by decide) (by decide)
  rw [show (s6 + 8 * s7).toNat = 8 * s7.toNat + s6.toNat by omega]
  refine ⟨Eq.mpr hp_82 ?_, trivial⟩
  rw [ht, hq]
  exact k_cgw (k := s6.toNat) (u := s7.toNat) (w := s3) (r := s4) (g := s5) (Eq.mp hp_82 m0) (by omega) ⟨⟨by omega, by omega⟩, ⟨by omega, by omega⟩, by omega, by omega⟩ (by omega) (by omega) hv (by omega)
theorem rul_333 : Rul r_333 := by
  refine ⟨fun h => (by cases h), fun gi gv hg ρ M hm hB hF hG => ?_⟩
  obtain ⟨g1, g2⟩ := List.cons.inj (show ([aI ((0 : Int), ([(6, 1), (7, 8)] : List (Nat × Int))), aI (((-97) : Int), ([(9, 1)] : List (Nat × Int)))] : List av) = [.inl gi, .inl gv] from hg)
  obtain ⟨g2, -⟩ := List.cons.inj g2
  cases g1
  cases g2
  have ei : ev ρ ((0 : Int), ([(6, 1), (7, 8)] : List (Nat × Int))) = ((ρ 6) + 8 * (ρ 7)) := by show 0 + (1 * ρ 6 + (8 * ρ 7 + 0)) = _; omega
  have ew : ev ρ (((-97) : Int), ([(9, 1)] : List (Nat × Int))) = ((ρ 9) - 97) := by show (-97) + (1 * ρ 9 + 0) = _; omega
  rw [show (st M (ctj r_333) (ev ρ ((0 : Int), ([(6, 1), (7, 8)] : List (Nat × Int)))).toNat (ev ρ (((-97) : Int), ([(9, 1)] : List (Nat × Int))))) = (st M 13 ((ρ 6) + 8 * (ρ 7)).toNat ((ρ 9) - 97)) from by rw [ei, ew]; rfl]
  have H := cr_333 M (ρ 0) (ρ 1) (ρ 2) (ρ 3) (ρ 4) (ρ 5) (ρ 6) (ρ 7) (ρ 8) (ρ 9) (hB _ List.mem_cons_self) (hB _ (List.mem_cons_of_mem _ List.mem_cons_self)) (hB _ (List.mem_cons_of_mem _ (List.mem_cons_of_mem _ List.mem_cons_self))) (hB _ (List.mem_cons_of_mem _ (List.mem_cons_of_mem _ (List.mem_cons_of_mem _ List.mem_cons_self)))) (hB _ (List.mem_cons_of_mem _ (List.mem_cons_of_mem _ (List.mem_cons_of_mem _ (List.mem_cons_of_mem _ List.mem_cons_self))))) (hB _ (List.mem_cons_of_mem _ (List.mem_cons_of_mem _ (List.mem_cons_of_mem _ (List.mem_cons_of_mem _ (List.mem_cons_of_mem _ List.mem_cons_self)))))) (hB _ (List.mem_cons_of_mem _ (List.mem_cons_of_mem _ (List.mem_cons_of_mem _ (List.mem_cons_of_mem _ (List.mem_cons_of_mem _ (List.mem_cons_of_mem _ List.mem_cons_self))))))) (hB _ (List.mem_cons_of_mem _ (List.mem_cons_of_mem _ (List.mem_cons_of_mem _ (List.mem_cons_of_mem _ (List.mem_cons_of_mem _ (List.mem_cons_of_mem _ (List.mem_cons_of_mem _ List.mem_cons_self)))))))) (hB _ (List.mem_cons_of_mem _ (List.mem_cons_of_mem _ (List.mem_cons_of_mem _ (List.mem_cons_of_mem _ (List.mem_cons_of_mem _ (List.mem_cons_of_mem _ (List.mem_cons_of_mem _ (List.mem_cons_of_mem _ List.mem_cons_self))))))))) (hB _ (List.mem_cons_of_mem _ (List.mem_cons_of_mem _ (List.mem_cons_of_mem _ (List.mem_cons_of_mem _ (List.mem_cons_of_mem _ (List.mem_cons_of_mem _ (List.mem_cons_of_mem _ (List.mem_cons_of_mem _ (List.mem_cons_of_mem _ List.mem_cons_self)))))))))) (cvp 82 (x' := (4096 * (ρ 0) + (ρ 1))) (y' := ((ρ 3) + 32 * (ρ 4) + 1024 * (ρ 5) + 8192 * (ρ 6) + 131072 * (ρ 7))) (by show 0 + (4096 * ρ 0 + (1 * ρ 1 + 0)) = _; omega) (by show 0 + (1 * ρ 3 + (32 * ρ 4 + (1024 * ρ 5 + (8192 * ρ 6 + (131072 * ρ 7 + 0))))) = _; omega) (hm _ List.mem_cons_self)) (cvp 53 (x' := (4096 * (ρ 0) + (ρ 1))) (y' := (256 * (ρ 2) + 2)) (by show 0 + (4096 * ρ 0 + (1 * ρ 1 + 0)) = _; omega) (by show 2 + (256 * ρ 2 + 0) = _; omega) (hm _ (List.mem_cons_of_mem _ List.mem_cons_self))) (cvp 45 (x' := ((ρ 2))) (y' := ((ρ 8))) (by show 0 + (1 * ρ 2 + 0) = _; omega) (by show 0 + (1 * ρ 8 + 0) = _; omega) (hm _ (List.mem_cons_of_mem _ (List.mem_cons_of_mem _ List.mem_cons_self)))) (cvm (c := 1) (by decide) (x' := ((ρ 6) + (ρ 8))) (y' := ((ρ 9))) (by show 0 + (1 * ρ 6 + (1 * ρ 8 + 0)) = _; omega) (by show 0 + (1 * ρ 9 + 0) = _; omega) (hm _ (List.mem_cons_of_mem _ (List.mem_cons_of_mem _ (List.mem_cons_of_mem _ List.mem_cons_self))))) hG
  obtain ⟨k0, -⟩ := H
  exact ⟨_, List.mem_cons_self, ρ, fun _ _ => rfl, (okM_c (pvp 82 (by show 0 + (4096 * ρ 0 + (1 * ρ 1 + 0)) = _; omega) (by show 8192 + (1 * ρ 3 + (32 * ρ 4 + (1024 * ρ 5 + (8192 * ρ 6 + (131072 * ρ 7 + 0))))) = _; omega) k0) okM_n), okB_n, okF_n⟩
-- cge_1
theorem cr_334 (M : pM) (s0 s1 s2 s3 s4 s5 s6 : Int) (b0 : 0 ≤ s0 ∧ s0 ≤ 1900) (b1 : 0 ≤ s1 ∧ s1 ≤ 950) (b2 : 0 ≤ s2 ∧ s2 ≤ 1900) (b3 : 0 ≤ s3 ∧ s3 ≤ 12) (b4 : 0 ≤ s4 ∧ s4 ≤ 20) (b5 : 0 ≤ s5 ∧ s5 ≤ 4) (b6 : 0 ≤ s6 ∧ s6 ≤ 7) (m0 : HP 82 (4096 * s0 + s1) (s3 + 32 * s4 + 1024 * s5 + 131072 * s6 + 65536) M) (m1 : HP 53 (4096 * s0 + s1) (256 * s2 + 3) M) (m2 : HP 79 (16 * s0 + 1) (s6) M) (hG : gI M) : (HP 57 (4096 * s0 + s1) (s3 + 32 * s4 + 1024 * s5) M ∧ True) := by
  have hv := q79 (P := s0) (i := 1) m2 ⟨by omega, by decide⟩ (by omega)
  exact ⟨Eq.mpr hp_57 (k_cge (u := s6.toNat) (w := s3) (r := s4) (g := s5) (P := s0) (l := s1) (Eq.mp hp_82 m0) (by omega) ⟨⟨by omega, by omega⟩, ⟨by omega, by omega⟩, by omega, by omega⟩ (ex_o (K := 0) (j := 2) (a := s2) (Eq.mp hp_53 m1) ⟨by omega, by omega, by decide, by decide⟩) ⟨by omega, by omega, by omega⟩ (by omega) (by omega)), trivial⟩
theorem rul_334 : Rul r_334 := by
  refine ⟨fun _ ρ M hm hB hF hG => ?_, fun gi gv hg => (by cases hg)⟩
  have H := cr_334 M (ρ 0) (ρ 1) (ρ 2) (ρ 3) (ρ 4) (ρ 5) (ρ 6) (hB _ List.mem_cons_self) (hB _ (List.mem_cons_of_mem _ List.mem_cons_self)) (hB _ (List.mem_cons_of_mem _ (List.mem_cons_of_mem _ List.mem_cons_self))) (hB _ (List.mem_cons_of_mem _ (List.mem_cons_of_mem _ (List.mem_cons_of_mem _ List.mem_cons_self)))) (hB _ (List.mem_cons_of_mem _ (List.mem_cons_of_mem _ (List.mem_cons_of_mem _ (List.mem_cons_of_mem _ List.mem_cons_self))))) (hB _ (List.mem_cons_of_mem _ (List.mem_cons_of_mem _ (List.mem_cons_of_mem _ (List.mem_cons_of_mem _ (List.mem_cons_of_mem _ List.mem_cons_self)))))) (hB _ (List.mem_cons_of_mem _ (List.mem_cons_of_mem _ (List.mem_cons_of_mem _ (List.mem_cons_of_mem _ (List.mem_cons_of_mem _ (List.mem_cons_of_mem _ List.mem_cons_self))))))) (cvp 82 (x' := (4096 * (ρ 0) + (ρ 1))) (y' := ((ρ 3) + 32 * (ρ 4) + 1024 * (ρ 5) + 131072 * (ρ 6) + 65536)) (by show 0 + (4096 * ρ 0 + (1 * ρ 1 + 0)) = _; omega) (by show 65536 + (1 * ρ 3 + (32 * ρ 4 + (1024 * ρ 5 + (131072 * ρ 6 + 0)))) = _; omega) (hm _ List.mem_cons_self)) (cvp 53 (x' := (4096 * (ρ 0) + (ρ 1))) (y' := (256 * (ρ 2) + 3)) (by show 0 + (4096 * ρ 0 + (1 * ρ 1 + 0)) = _; omega) (by show 3 + (256 * ρ 2 + 0) = _; omega) (hm _ (List.mem_cons_of_mem _ List.mem_cons_self))) (cvp 79 (x' := (16 * (ρ 0) + 1)) (y' := ((ρ 6))) (by show 1 + (16 * ρ 0 + 0) = _; omega) (by show 0 + (1 * ρ 6 + 0) = _; omega) (hm _ (List.mem_cons_of_mem _ (List.mem_cons_of_mem _ List.mem_cons_self)))) hG
  obtain ⟨k0, -⟩ := H
  exact ⟨_, List.mem_cons_self, ρ, fun _ _ => rfl, (okM_c (pvp 57 (by show 0 + (4096 * ρ 0 + (1 * ρ 1 + 0)) = _; omega) (by show 0 + (1 * ρ 3 + (32 * ρ 4 + (1024 * ρ 5 + 0))) = _; omega) k0) okM_n), okB_n, okF_n⟩
-- cl0_1
theorem cr_335 (M : pM) (s0 s1 s2 s3 s4 s5 : Int) (b0 : 0 ≤ s0 ∧ s0 ≤ 1900) (b1 : 0 ≤ s1 ∧ s1 ≤ 950) (b2 : 0 ≤ s2 ∧ s2 ≤ 12) (b3 : 0 ≤ s3 ∧ s3 ≤ 20) (b4 : 0 ≤ s4 ∧ s4 ≤ 4) (b5 : 0 ≤ s5 ∧ s5 ≤ 7) (m0 : HP 55 (4096 * s0 + s1) (s2 + 32 * s3 + 1024 * s4) M) (m1 : HP 87 (s0) (s5) M) (hG : gI M) : (HP 84 (4096 * s0 + s1) (s2 + 32 * s3 + 1024 * s4 + 131072 * s5) M ∧ True) := by
  exact ⟨Eq.mpr hp_84 (k_cl0 (u := s5.toNat) (Eq.mp hp_55 m0) (by omega)), trivial⟩
theorem rul_335 : Rul r_335 := by
  refine ⟨fun _ ρ M hm hB hF hG => ?_, fun gi gv hg => (by cases hg)⟩
  have H := cr_335 M (ρ 0) (ρ 1) (ρ 2) (ρ 3) (ρ 4) (ρ 5) (hB _ List.mem_cons_self) (hB _ (List.mem_cons_of_mem _ List.mem_cons_self)) (hB _ (List.mem_cons_of_mem _ (List.mem_cons_of_mem _ List.mem_cons_self))) (hB _ (List.mem_cons_of_mem _ (List.mem_cons_of_mem _ (List.mem_cons_of_mem _ List.mem_cons_self)))) (hB _ (List.mem_cons_of_mem _ (List.mem_cons_of_mem _ (List.mem_cons_of_mem _ (List.mem_cons_of_mem _ List.mem_cons_self))))) (hB _ (List.mem_cons_of_mem _ (List.mem_cons_of_mem _ (List.mem_cons_of_mem _ (List.mem_cons_of_mem _ (List.mem_cons_of_mem _ List.mem_cons_self)))))) (cvp 55 (x' := (4096 * (ρ 0) + (ρ 1))) (y' := ((ρ 2) + 32 * (ρ 3) + 1024 * (ρ 4))) (by show 0 + (4096 * ρ 0 + (1 * ρ 1 + 0)) = _; omega) (by show 0 + (1 * ρ 2 + (32 * ρ 3 + (1024 * ρ 4 + 0))) = _; omega) (hm _ List.mem_cons_self)) (cvp 87 (x' := ((ρ 0))) (y' := ((ρ 5))) (by show 0 + (1 * ρ 0 + 0) = _; omega) (by show 0 + (1 * ρ 5 + 0) = _; omega) (hm _ (List.mem_cons_of_mem _ List.mem_cons_self))) hG
  obtain ⟨k0, -⟩ := H
  exact ⟨_, List.mem_cons_self, ρ, fun _ _ => rfl, (okM_c (pvp 84 (by show 0 + (4096 * ρ 0 + (1 * ρ 1 + 0)) = _; omega) (by show 0 + (1 * ρ 2 + (32 * ρ 3 + (1024 * ρ 4 + (131072 * ρ 5 + 0)))) = _; omega) k0) okM_n), okB_n, okF_n⟩
-- clw_1
theorem cr_336 (M : pM) (s0 s1 s2 s3 s4 s5 s6 s7 : Int) (b0 : 0 ≤ s0 ∧ s0 ≤ 1900) (b1 : 0 ≤ s1 ∧ s1 ≤ 950) (b2 : 0 ≤ s2 ∧ s2 ≤ 12) (b3 : 0 ≤ s3 ∧ s3 ≤ 20) (b4 : 0 ≤ s4 ∧ s4 ≤ 4) (b5 : 0 ≤ s5 ∧ s5 ≤ 7) (b6 : 0 ≤ s6 ∧ s6 ≤ 5) (b7 : 0 ≤ s7 ∧ s7 ≤ 20) (m0 : HP 84 (4096 * s0 + s1) (s2 + 32 * s3 + 1024 * s4 + 131072 * s5 + 8192 * s6) M) (m1 : HP 87 (s0) (s5) M) (m2 : HP 79 (16 * s0 + s6 + 2) (s7) M) (hG : gI M) : (HP 84 (4096 * s0 + s1) (s2 + 32 * s3 + 1024 * s4 + 131072 * s5 + 8192 * s6 + 8192) (st M 14 (6 * s5 + s6).toNat (s7)) ∧ True) := by
  have hv := q79 (P := s0) (i := 2 + s6.toNat) m2 ⟨by omega, by omega⟩ (by omega)
  have hq : qRc 1 (st M 14 (6 * s5.toNat + s6.toNat) (s7)) = qU (qRc 1 M) 1 (6 * s5.toNat + s6.toNat) (s7) := qRc_st (b := 1) (k := 1)
  have ht : tm (st M 14 (6 * s5.toNat + s6.toNat) (s7)) = tm M := tm_st (by decide) (by decide)
  rw [show (6 * s5 + s6).toNat = 6 * s5.toNat + s6.toNat by omega]
  refine ⟨Eq.mpr hp_84 ?_, trivial⟩
  rw [ht, hq]
  exact k_clw (k := s6.toNat) (u := s5.toNat) (w := s2) (r := s3) (g := s4) (P := s0) (l := s1) (Eq.mp hp_84 m0) (by omega) ⟨⟨by omega, by omega⟩, ⟨by omega, by omega⟩, by omega, by omega⟩ (by omega) (by omega) ⟨by omega, by omega, by omega⟩ hv (by omega)
theorem rul_336 : Rul r_336 := by
  refine ⟨fun h => (by cases h), fun gi gv hg ρ M hm hB hF hG => ?_⟩
  obtain ⟨g1, g2⟩ := List.cons.inj (show ([aI ((0 : Int), ([(5, 6), (6, 1)] : List (Nat × Int))), aI ((0 : Int), ([(7, 1)] : List (Nat × Int)))] : List av) = [.inl gi, .inl gv] from hg)
  obtain ⟨g2, -⟩ := List.cons.inj g2
  cases g1
  cases g2
  have ei : ev ρ ((0 : Int), ([(5, 6), (6, 1)] : List (Nat × Int))) = (6 * (ρ 5) + (ρ 6)) := by show 0 + (6 * ρ 5 + (1 * ρ 6 + 0)) = _; omega
  have ew : ev ρ ((0 : Int), ([(7, 1)] : List (Nat × Int))) = ((ρ 7)) := by show 0 + (1 * ρ 7 + 0) = _; omega
  rw [show (st M (ctj r_336) (ev ρ ((0 : Int), ([(5, 6), (6, 1)] : List (Nat × Int)))).toNat (ev ρ ((0 : Int), ([(7, 1)] : List (Nat × Int))))) = (st M 14 (6 * (ρ 5) + (ρ 6)).toNat ((ρ 7))) from by rw [ei, ew]; rfl]
  have H := cr_336 M (ρ 0) (ρ 1) (ρ 2) (ρ 3) (ρ 4) (ρ 5) (ρ 6) (ρ 7) (hB _ List.mem_cons_self) (hB _ (List.mem_cons_of_mem _ List.mem_cons_self)) (hB _ (List.mem_cons_of_mem _ (List.mem_cons_of_mem _ List.mem_cons_self))) (hB _ (List.mem_cons_of_mem _ (List.mem_cons_of_mem _ (List.mem_cons_of_mem _ List.mem_cons_self)))) (hB _ (List.mem_cons_of_mem _ (List.mem_cons_of_mem _ (List.mem_cons_of_mem _ (List.mem_cons_of_mem _ List.mem_cons_self))))) (hB _ (List.mem_cons_of_mem _ (List.mem_cons_of_mem _ (List.mem_cons_of_mem _ (List.mem_cons_of_mem _ (List.mem_cons_of_mem _ List.mem_cons_self)))))) (hB _ (List.mem_cons_of_mem _ (List.mem_cons_of_mem _ (List.mem_cons_of_mem _ (List.mem_cons_of_mem _ (List.mem_cons_of_mem _ (List.mem_cons_of_mem _ List.mem_cons_self))))))) (hB _ (List.mem_cons_of_mem _ (List.mem_cons_of_mem _ (List.mem_cons_of_mem _ (List.mem_cons_of_mem _ (List.mem_cons_of_mem _ (List.mem_cons_of_mem _ (List.mem_cons_of_mem _ List.mem_cons_self)))))))) (cvp 84 (x' := (4096 * (ρ 0) + (ρ 1))) (y' := ((ρ 2) + 32 * (ρ 3) + 1024 * (ρ 4) + 131072 * (ρ 5) + 8192 * (ρ 6))) (by show 0 + (4096 * ρ 0 + (1 * ρ 1 + 0)) = _; omega) (by show 0 + (1 * ρ 2 + (32 * ρ 3 + (1024 * ρ 4 + (131072 * ρ 5 + (8192 * ρ 6 + 0))))) = _; omega) (hm _ List.mem_cons_self)) (cvp 87 (x' := ((ρ 0))) (y' := ((ρ 5))) (by show 0 + (1 * ρ 0 + 0) = _; omega) (by show 0 + (1 * ρ 5 + 0) = _; omega) (hm _ (List.mem_cons_of_mem _ List.mem_cons_self))) (cvp 79 (x' := (16 * (ρ 0) + (ρ 6) + 2)) (y' := ((ρ 7))) (by show 2 + (16 * ρ 0 + (1 * ρ 6 + 0)) = _; omega) (by show 0 + (1 * ρ 7 + 0) = _; omega) (hm _ (List.mem_cons_of_mem _ (List.mem_cons_of_mem _ List.mem_cons_self)))) hG
  obtain ⟨k0, -⟩ := H
  exact ⟨_, List.mem_cons_self, ρ, fun _ _ => rfl, (okM_c (pvp 84 (by show 0 + (4096 * ρ 0 + (1 * ρ 1 + 0)) = _; omega) (by show 8192 + (1 * ρ 2 + (32 * ρ 3 + (1024 * ρ 4 + (131072 * ρ 5 + (8192 * ρ 6 + 0))))) = _; omega) k0) okM_n), okB_n, okF_n⟩
-- cle_1
theorem cr_337 (M : pM) (s0 s1 s2 s3 s4 s5 s6 : Int) (b0 : 0 ≤ s0 ∧ s0 ≤ 1900) (b1 : 0 ≤ s1 ∧ s1 ≤ 950) (b2 : 0 ≤ s2 ∧ s2 ≤ 1900) (b3 : 0 ≤ s3 ∧ s3 ≤ 12) (b4 : 0 ≤ s4 ∧ s4 ≤ 20) (b5 : 0 ≤ s5 ∧ s5 ≤ 4) (b6 : 0 ≤ s6 ∧ s6 ≤ 7) (m0 : HP 84 (4096 * s0 + s1) (s3 + 32 * s4 + 1024 * s5 + 131072 * s6 + 49152) M) (m1 : HP 53 (4096 * s0 + s1) (256 * s2 + 24) M) (m2 : HP 87 (s0) (s6) M) (hG : gI M) : (HP 57 (4096 * s0 + s1) (s3 + 32 * s4 + 1024 * s5) M ∧ True) := by
  have hv := (Eq.mp hp_87 m2).2
  exact ⟨Eq.mpr hp_57 (k_cle (u := s6.toNat) (w := s3) (r := s4) (g := s5) (P := s0) (l := s1) (Eq.mp hp_84 m0) (by omega) ⟨⟨by omega, by omega⟩, ⟨by omega, by omega⟩, by omega, by omega⟩ (ex_o (K := 1) (j := 7) (a := s2) (Eq.mp hp_53 m1) ⟨by omega, by omega, by decide, by decide⟩) ⟨by omega, by omega, by omega⟩ (by omega) (by omega)), trivial⟩
theorem rul_337 : Rul r_337 := by
  refine ⟨fun _ ρ M hm hB hF hG => ?_, fun gi gv hg => (by cases hg)⟩
  have H := cr_337 M (ρ 0) (ρ 1) (ρ 2) (ρ 3) (ρ 4) (ρ 5) (ρ 6) (hB _ List.mem_cons_self) (hB _ (List.mem_cons_of_mem _ List.mem_cons_self)) (hB _ (List.mem_cons_of_mem _ (List.mem_cons_of_mem _ List.mem_cons_self))) (hB _ (List.mem_cons_of_mem _ (List.mem_cons_of_mem _ (List.mem_cons_of_mem _ List.mem_cons_self)))) (hB _ (List.mem_cons_of_mem _ (List.mem_cons_of_mem _ (List.mem_cons_of_mem _ (List.mem_cons_of_mem _ List.mem_cons_self))))) (hB _ (List.mem_cons_of_mem _ (List.mem_cons_of_mem _ (List.mem_cons_of_mem _ (List.mem_cons_of_mem _ (List.mem_cons_of_mem _ List.mem_cons_self)))))) (hB _ (List.mem_cons_of_mem _ (List.mem_cons_of_mem _ (List.mem_cons_of_mem _ (List.mem_cons_of_mem _ (List.mem_cons_of_mem _ (List.mem_cons_of_mem _ List.mem_cons_self))))))) (cvp 84 (x' := (4096 * (ρ 0) + (ρ 1))) (y' := ((ρ 3) + 32 * (ρ 4) + 1024 * (ρ 5) + 131072 * (ρ 6) + 49152)) (by show 0 + (4096 * ρ 0 + (1 * ρ 1 + 0)) = _; omega) (by show 49152 + (1 * ρ 3 + (32 * ρ 4 + (1024 * ρ 5 + (131072 * ρ 6 + 0)))) = _; omega) (hm _ List.mem_cons_self)) (cvp 53 (x' := (4096 * (ρ 0) + (ρ 1))) (y' := (256 * (ρ 2) + 24)) (by show 0 + (4096 * ρ 0 + (1 * ρ 1 + 0)) = _; omega) (by show 24 + (256 * ρ 2 + 0) = _; omega) (hm _ (List.mem_cons_of_mem _ List.mem_cons_self))) (cvp 87 (x' := ((ρ 0))) (y' := ((ρ 6))) (by show 0 + (1 * ρ 0 + 0) = _; omega) (by show 0 + (1 * ρ 6 + 0) = _; omega) (hm _ (List.mem_cons_of_mem _ (List.mem_cons_of_mem _ List.mem_cons_self)))) hG
  obtain ⟨k0, -⟩ := H
  exact ⟨_, List.mem_cons_self, ρ, fun _ _ => rfl, (okM_c (pvp 57 (by show 0 + (4096 * ρ 0 + (1 * ρ 1 + 0)) = _; omega) (by show 0 + (1 * ρ 3 + (32 * ρ 4 + (1024 * ρ 5 + 0))) = _; omega) k0) okM_n), okB_n, okF_n⟩
-- cww_1
theorem cr_338 (M : pM) (s0 s1 s2 s3 s4 s5 s6 s7 s8 : Int) (b0 : 0 ≤ s0 ∧ s0 ≤ 1900) (b1 : 0 ≤ s1 ∧ s1 ≤ 950) (b2 : 0 ≤ s2 ∧ s2 ≤ 1900) (b3 : 0 ≤ s3 ∧ s3 ≤ 12) (b4 : 0 ≤ s4 ∧ s4 ≤ 20) (b5 : 0 ≤ s5 ∧ s5 ≤ 4) (b6 : 0 ≤ s6 ∧ s6 ≤ 5) (b7 : 0 ≤ s7 ∧ s7 ≤ 3) (b8 : 0 ≤ s8 ∧ s8 ≤ 3) (m0 : HP 55 (4096 * s0 + s1) (s3 + 32 * s4 + 1024 * s5) M) (m1 : HP 53 (4096 * s0 + s1) (256 * s2 + 36) M) (m2 : HP 79 (16 * s0 + 1) (s6) M) (m3 : HP 88 (s0) (s7) M) (m4 : HP 79 (16 * s0 + 3) (s8) M) (hG : gI M) : (HP 57 (4096 * s0 + s1) (s3 + 32 * s4 + 1024 * s5) (st M 15 (s6).toNat (s7 + 4 * s8)) ∧ True) := by
  have hq : qRc 1 (st M 15 (s6.toNat) (s7 + 4 * s8)) = qU (qRc 1 M) 2 (s6.toNat) (s7 + 4 * s8) := qRc_st (b := 1) (k := 2)
  have ht : tm (st M 15 (s6.toNat) (s7 + 4 * s8)) = tm M := tm_st (by decide) (by decide)
  rw [show (s6).toNat = s6.toNat by omega]
  refine ⟨Eq.mpr hp_57 ?_, trivial⟩
  rw [ht, hq]
  exact k_cww (P := s0) (l := s1) (Eq.mp hp_55 m0) (ex_o (K := 2) (j := 3) (a := s2) (Eq.mp hp_53 m1) ⟨by omega, by omega, by decide, by decide⟩) ⟨by omega, by omega, by omega⟩ (q79 (P := s0) (i := 1) m2 ⟨by omega, by decide⟩ (by omega)) (Eq.mp hp_88 m3).2 (q79 (P := s0) (i := 3) m4 ⟨by omega, by decide⟩ (by omega)) (by omega) (by omega) (by omega) (by omega)
theorem rul_338 : Rul r_338 := by
  refine ⟨fun h => (by cases h), fun gi gv hg ρ M hm hB hF hG => ?_⟩
  obtain ⟨g1, g2⟩ := List.cons.inj (show ([aI ((0 : Int), ([(6, 1)] : List (Nat × Int))), aI ((0 : Int), ([(7, 1), (8, 4)] : List (Nat × Int)))] : List av) = [.inl gi, .inl gv] from hg)
  obtain ⟨g2, -⟩ := List.cons.inj g2
  cases g1
  cases g2
  have ei : ev ρ ((0 : Int), ([(6, 1)] : List (Nat × Int))) = ((ρ 6)) := by show 0 + (1 * ρ 6 + 0) = _; omega
  have ew : ev ρ ((0 : Int), ([(7, 1), (8, 4)] : List (Nat × Int))) = ((ρ 7) + 4 * (ρ 8)) := by show 0 + (1 * ρ 7 + (4 * ρ 8 + 0)) = _; omega
  rw [show (st M (ctj r_338) (ev ρ ((0 : Int), ([(6, 1)] : List (Nat × Int)))).toNat (ev ρ ((0 : Int), ([(7, 1), (8, 4)] : List (Nat × Int))))) = (st M 15 ((ρ 6)).toNat ((ρ 7) + 4 * (ρ 8))) from by rw [ei, ew]; rfl]
  have H := cr_338 M (ρ 0) (ρ 1) (ρ 2) (ρ 3) (ρ 4) (ρ 5) (ρ 6) (ρ 7) (ρ 8) (hB _ List.mem_cons_self) (hB _ (List.mem_cons_of_mem _ List.mem_cons_self)) (hB _ (List.mem_cons_of_mem _ (List.mem_cons_of_mem _ List.mem_cons_self))) (hB _ (List.mem_cons_of_mem _ (List.mem_cons_of_mem _ (List.mem_cons_of_mem _ List.mem_cons_self)))) (hB _ (List.mem_cons_of_mem _ (List.mem_cons_of_mem _ (List.mem_cons_of_mem _ (List.mem_cons_of_mem _ List.mem_cons_self))))) (hB _ (List.mem_cons_of_mem _ (List.mem_cons_of_mem _ (List.mem_cons_of_mem _ (List.mem_cons_of_mem _ (List.mem_cons_of_mem _ List.mem_cons_self)))))) (hB _ (List.mem_cons_of_mem _ (List.mem_cons_of_mem _ (List.mem_cons_of_mem _ (List.mem_cons_of_mem _ (List.mem_cons_of_mem _ (List.mem_cons_of_mem _ List.mem_cons_self))))))) (hB _ (List.mem_cons_of_mem _ (List.mem_cons_of_mem _ (List.mem_cons_of_mem _ (List.mem_cons_of_mem _ (List.mem_cons_of_mem _ (List.mem_cons_of_mem _ (List.mem_cons_of_mem _ List.mem_cons_self)))))))) (hB _ (List.mem_cons_of_mem _ (List.mem_cons_of_mem _ (List.mem_cons_of_mem _ (List.mem_cons_of_mem _ (List.mem_cons_of_mem _ (List.mem_cons_of_mem _ (List.mem_cons_of_mem _ (List.mem_cons_of_mem _ List.mem_cons_self))))))))) (cvp 55 (x' := (4096 * (ρ 0) + (ρ 1))) (y' := ((ρ 3) + 32 * (ρ 4) + 1024 * (ρ 5))) (by show 0 + (4096 * ρ 0 + (1 * ρ 1 + 0)) = _; omega) (by show 0 + (1 * ρ 3 + (32 * ρ 4 + (1024 * ρ 5 + 0))) = _; omega) (hm _ List.mem_cons_self)) (cvp 53 (x' := (4096 * (ρ 0) + (ρ 1))) (y' := (256 * (ρ 2) + 36)) (by show 0 + (4096 * ρ 0 + (1 * ρ 1 + 0)) = _; omega) (by show 36 + (256 * ρ 2 + 0) = _; omega) (hm _ (List.mem_cons_of_mem _ List.mem_cons_self))) (cvp 79 (x' := (16 * (ρ 0) + 1)) (y' := ((ρ 6))) (by show 1 + (16 * ρ 0 + 0) = _; omega) (by show 0 + (1 * ρ 6 + 0) = _; omega) (hm _ (List.mem_cons_of_mem _ (List.mem_cons_of_mem _ List.mem_cons_self)))) (cvp 88 (x' := ((ρ 0))) (y' := ((ρ 7))) (by show 0 + (1 * ρ 0 + 0) = _; omega) (by show 0 + (1 * ρ 7 + 0) = _; omega) (hm _ (List.mem_cons_of_mem _ (List.mem_cons_of_mem _ (List.mem_cons_of_mem _ List.mem_cons_self))))) (cvp 79 (x' := (16 * (ρ 0) + 3)) (y' := ((ρ 8))) (by show 3 + (16 * ρ 0 + 0) = _; omega) (by show 0 + (1 * ρ 8 + 0) = _; omega) (hm _ (List.mem_cons_of_mem _ (List.mem_cons_of_mem _ (List.mem_cons_of_mem _ (List.mem_cons_of_mem _ List.mem_cons_self)))))) hG
  obtain ⟨k0, -⟩ := H
  exact ⟨_, List.mem_cons_self, ρ, fun _ _ => rfl, (okM_c (pvp 57 (by show 0 + (4096 * ρ 0 + (1 * ρ 1 + 0)) = _; omega) (by show 0 + (1 * ρ 3 + (32 * ρ 4 + (1024 * ρ 5 + 0))) = _; omega) k0) okM_n), okB_n, okF_n⟩
-- ctw_1
theorem cr_339 (M : pM) (s0 s1 s2 s3 s4 s5 s6 s7 : Int) (b0 : 0 ≤ s0 ∧ s0 ≤ 1900) (b1 : 0 ≤ s1 ∧ s1 ≤ 950) (b2 : 0 ≤ s2 ∧ s2 ≤ 1900) (b3 : 0 ≤ s3 ∧ s3 ≤ 12) (b4 : 0 ≤ s4 ∧ s4 ≤ 20) (b5 : 0 ≤ s5 ∧ s5 ≤ 4) (b6 : 0 ≤ s6 ∧ s6 ≤ 5) (b7 : 1 ≤ s7 ∧ s7 ≤ 40) (m0 : HP 55 (4096 * s0 + s1) (s3 + 32 * s4 + 1024 * s5) M) (m1 : HP 53 (4096 * s0 + s1) (256 * s2 + 51) M) (m2 : HP 79 (16 * s0 + 1) (s6) M) (m3 : HP 79 (16 * s0 + 2) (s7) M) (hG : gI M) : (HP 57 (4096 * s0 + s1) (s3 + 32 * s4 + 1024 * s5) (st M 16 (s6).toNat (s7)) ∧ True) := by
  have hq : qRc 1 (st M 16 (s6.toNat) (s7)) = qU (qRc 1 M) 3 (s6.toNat) (s7) := qRc_st (b := 1) (k := 3)
  have ht : tm (st M 16 (s6.toNat) (s7)) = tm M := tm_st (by decide) (by decide)
  rw [show (s6).toNat = s6.toNat by omega]
  refine ⟨Eq.mpr hp_57 ?_, trivial⟩
  rw [ht, hq]
  exact k_ctw (P := s0) (l := s1) (Eq.mp hp_55 m0) (ex_o (K := 3) (j := 2) (a := s2) (Eq.mp hp_53 m1) ⟨by omega, by omega, by decide, by decide⟩) ⟨by omega, by omega, by omega⟩ (q79 (P := s0) (i := 1) m2 ⟨by omega, by decide⟩ (by omega)) (q79 (P := s0) (i := 2) m3 ⟨by omega, by decide⟩ (by omega)) (by omega)
theorem rul_339 : Rul r_339 := by
  refine ⟨fun h => (by cases h), fun gi gv hg ρ M hm hB hF hG => ?_⟩
  obtain ⟨g1, g2⟩ := List.cons.inj (show ([aI ((0 : Int), ([(6, 1)] : List (Nat × Int))), aI ((0 : Int), ([(7, 1)] : List (Nat × Int)))] : List av) = [.inl gi, .inl gv] from hg)
  obtain ⟨g2, -⟩ := List.cons.inj g2
  cases g1
  cases g2
  have ei : ev ρ ((0 : Int), ([(6, 1)] : List (Nat × Int))) = ((ρ 6)) := by show 0 + (1 * ρ 6 + 0) = _; omega
  have ew : ev ρ ((0 : Int), ([(7, 1)] : List (Nat × Int))) = ((ρ 7)) := by show 0 + (1 * ρ 7 + 0) = _; omega
  rw [show (st M (ctj r_339) (ev ρ ((0 : Int), ([(6, 1)] : List (Nat × Int)))).toNat (ev ρ ((0 : Int), ([(7, 1)] : List (Nat × Int))))) = (st M 16 ((ρ 6)).toNat ((ρ 7))) from by rw [ei, ew]; rfl]
  have H := cr_339 M (ρ 0) (ρ 1) (ρ 2) (ρ 3) (ρ 4) (ρ 5) (ρ 6) (ρ 7) (hB _ List.mem_cons_self) (hB _ (List.mem_cons_of_mem _ List.mem_cons_self)) (hB _ (List.mem_cons_of_mem _ (List.mem_cons_of_mem _ List.mem_cons_self))) (hB _ (List.mem_cons_of_mem _ (List.mem_cons_of_mem _ (List.mem_cons_of_mem _ List.mem_cons_self)))) (hB _ (List.mem_cons_of_mem _ (List.mem_cons_of_mem _ (List.mem_cons_of_mem _ (List.mem_cons_of_mem _ List.mem_cons_self))))) (hB _ (List.mem_cons_of_mem _ (List.mem_cons_of_mem _ (List.mem_cons_of_mem _ (List.mem_cons_of_mem _ (List.mem_cons_of_mem _ List.mem_cons_self)))))) (hB _ (List.mem_cons_of_mem _ (List.mem_cons_of_mem _ (List.mem_cons_of_mem _ (List.mem_cons_of_mem _ (List.mem_cons_of_mem _ (List.mem_cons_of_mem _ List.mem_cons_self))))))) (hB _ (List.mem_cons_of_mem _ (List.mem_cons_of_mem _ (List.mem_cons_of_mem _ (List.mem_cons_of_mem _ (List.mem_cons_of_mem _ (List.mem_cons_of_mem _ (List.mem_cons_of_mem _ List.mem_cons_self)))))))) (cvp 55 (x' := (4096 * (ρ 0) + (ρ 1))) (y' := ((ρ 3) + 32 * (ρ 4) + 1024 * (ρ 5))) (by show 0 + (4096 * ρ 0 + (1 * ρ 1 + 0)) = _; omega) (by show 0 + (1 * ρ 3 + (32 * ρ 4 + (1024 * ρ 5 + 0))) = _; omega) (hm _ List.mem_cons_self)) (cvp 53 (x' := (4096 * (ρ 0) + (ρ 1))) (y' := (256 * (ρ 2) + 51)) (by show 0 + (4096 * ρ 0 + (1 * ρ 1 + 0)) = _; omega) (by show 51 + (256 * ρ 2 + 0) = _; omega) (hm _ (List.mem_cons_of_mem _ List.mem_cons_self))) (cvp 79 (x' := (16 * (ρ 0) + 1)) (y' := ((ρ 6))) (by show 1 + (16 * ρ 0 + 0) = _; omega) (by show 0 + (1 * ρ 6 + 0) = _; omega) (hm _ (List.mem_cons_of_mem _ (List.mem_cons_of_mem _ List.mem_cons_self)))) (cvp 79 (x' := (16 * (ρ 0) + 2)) (y' := ((ρ 7))) (by show 2 + (16 * ρ 0 + 0) = _; omega) (by show 0 + (1 * ρ 7 + 0) = _; omega) (hm _ (List.mem_cons_of_mem _ (List.mem_cons_of_mem _ (List.mem_cons_of_mem _ List.mem_cons_self))))) hG
  obtain ⟨k0, -⟩ := H
  exact ⟨_, List.mem_cons_self, ρ, fun _ _ => rfl, (okM_c (pvp 57 (by show 0 + (4096 * ρ 0 + (1 * ρ 1 + 0)) = _; omega) (by show 0 + (1 * ρ 3 + (32 * ρ 4 + (1024 * ρ 5 + 0))) = _; omega) k0) okM_n), okB_n, okF_n⟩
-- cap_1
theorem cr_340 (M : pM) (s0 s1 s2 s3 s4 s5 s6 : Int) (b0 : 0 ≤ s0 ∧ s0 ≤ 1900) (b1 : 0 ≤ s1 ∧ s1 ≤ 950) (b2 : 0 ≤ s2 ∧ s2 ≤ 12) (b3 : 0 ≤ s3 ∧ s3 ≤ 20) (b4 : 0 ≤ s4 ∧ s4 ≤ 4) (b5 : 0 ≤ s5 ∧ s5 ≤ 59) (b6 : 0 ≤ s6 ∧ s6 ≤ 99) (m0 : HP 55 (4096 * s0 + s1) (s2 + 32 * s3 + 1024 * s4) M) (f0 : 0 ≤ ((-4) * s2 + s5)) (hG : gI M) : (HP 55 (4096 * s0 + s1) (s2 + 32 * s3 + 1024 * s4) (st M 17 (s5).toNat (s6)) ∧ True) := by
  have hq : qRc 1 (st M 17 (s5.toNat) (s6)) = qU (qRc 1 M) 4 (s5.toNat) (s6) := qRc_st (b := 1) (k := 4)
  have ht : tm (st M 17 (s5.toNat) (s6)) = tm M := tm_st (by decide) (by decide)
  rw [show (s5).toNat = s5.toNat by omega]
  refine ⟨Eq.mpr hp_55 ?_, trivial⟩
  rw [ht, hq]
  exact k_cap (w := s2) (r := s3) (g := s4) (Eq.mp hp_55 m0) (by omega) ⟨⟨by omega, by omega⟩, ⟨by omega, by omega⟩, by omega, by omega⟩ (by omega)
theorem rul_340 : Rul r_340 := by
  refine ⟨fun h => (by cases h), fun gi gv hg ρ M hm hB hF hG => ?_⟩
  obtain ⟨g1, g2⟩ := List.cons.inj (show ([aI ((0 : Int), ([(5, 1)] : List (Nat × Int))), aI ((0 : Int), ([(6, 1)] : List (Nat × Int)))] : List av) = [.inl gi, .inl gv] from hg)
  obtain ⟨g2, -⟩ := List.cons.inj g2
  cases g1
  cases g2
  have ei : ev ρ ((0 : Int), ([(5, 1)] : List (Nat × Int))) = ((ρ 5)) := by show 0 + (1 * ρ 5 + 0) = _; omega
  have ew : ev ρ ((0 : Int), ([(6, 1)] : List (Nat × Int))) = ((ρ 6)) := by show 0 + (1 * ρ 6 + 0) = _; omega
  rw [show (st M (ctj r_340) (ev ρ ((0 : Int), ([(5, 1)] : List (Nat × Int)))).toNat (ev ρ ((0 : Int), ([(6, 1)] : List (Nat × Int))))) = (st M 17 ((ρ 5)).toNat ((ρ 6))) from by rw [ei, ew]; rfl]
  have H := cr_340 M (ρ 0) (ρ 1) (ρ 2) (ρ 3) (ρ 4) (ρ 5) (ρ 6) (hB _ List.mem_cons_self) (hB _ (List.mem_cons_of_mem _ List.mem_cons_self)) (hB _ (List.mem_cons_of_mem _ (List.mem_cons_of_mem _ List.mem_cons_self))) (hB _ (List.mem_cons_of_mem _ (List.mem_cons_of_mem _ (List.mem_cons_of_mem _ List.mem_cons_self)))) (hB _ (List.mem_cons_of_mem _ (List.mem_cons_of_mem _ (List.mem_cons_of_mem _ (List.mem_cons_of_mem _ List.mem_cons_self))))) (hB _ (List.mem_cons_of_mem _ (List.mem_cons_of_mem _ (List.mem_cons_of_mem _ (List.mem_cons_of_mem _ (List.mem_cons_of_mem _ List.mem_cons_self)))))) (hB _ (List.mem_cons_of_mem _ (List.mem_cons_of_mem _ (List.mem_cons_of_mem _ (List.mem_cons_of_mem _ (List.mem_cons_of_mem _ (List.mem_cons_of_mem _ List.mem_cons_self))))))) (cvp 55 (x' := (4096 * (ρ 0) + (ρ 1))) (y' := ((ρ 2) + 32 * (ρ 3) + 1024 * (ρ 4))) (by show 0 + (4096 * ρ 0 + (1 * ρ 1 + 0)) = _; omega) (by show 0 + (1 * ρ 2 + (32 * ρ 3 + (1024 * ρ 4 + 0))) = _; omega) (hm _ List.mem_cons_self)) (by have h := hF _ List.mem_cons_self; have h : 0 ≤ 0 + ((-4) * ρ 2 + (1 * ρ 5 + 0)) := h; omega) hG
  obtain ⟨k0, -⟩ := H
  exact ⟨_, List.mem_cons_self, ρ, fun _ _ => rfl, (okM_c (pvp 55 (by show 0 + (4096 * ρ 0 + (1 * ρ 1 + 0)) = _; omega) (by show 0 + (1 * ρ 2 + (32 * ρ 3 + (1024 * ρ 4 + 0))) = _; omega) k0) okM_n), okB_n, okF_n⟩
-- crp_1
theorem cr_341 (M : pM) (s0 s1 s2 s3 s4 s5 s6 : Int) (b0 : 0 ≤ s0 ∧ s0 ≤ 1900) (b1 : 0 ≤ s1 ∧ s1 ≤ 950) (b2 : 0 ≤ s2 ∧ s2 ≤ 12) (b3 : 0 ≤ s3 ∧ s3 ≤ 20) (b4 : 0 ≤ s4 ∧ s4 ≤ 4) (b5 : 0 ≤ s5 ∧ s5 ≤ 59) (b6 : 0 ≤ s6 ∧ s6 ≤ 99) (m0 : HP 55 (4096 * s0 + s1) (s2 + 32 * s3 + 1024 * s4) M) (f0 : 0 ≤ ((-3) * s3 + s5)) (hG : gI M) : (HP 55 (4096 * s0 + s1) (s2 + 32 * s3 + 1024 * s4) (st M 18 (s5).toNat (s6)) ∧ True) := by
  have hq : qRc 1 (st M 18 (s5.toNat) (s6)) = qU (qRc 1 M) 5 (s5.toNat) (s6) := qRc_st (b := 1) (k := 5)
  have ht : tm (st M 18 (s5.toNat) (s6)) = tm M := tm_st (by decide) (by decide)
  rw [show (s5).toNat = s5.toNat by omega]
  refine ⟨Eq.mpr hp_55 ?_, trivial⟩
  rw [ht, hq]
  exact k_crp (w := s2) (r := s3) (g := s4) (Eq.mp hp_55 m0) (by omega) ⟨⟨by omega, by omega⟩, ⟨by omega, by omega⟩, by omega, by omega⟩ (by omega)
theorem rul_341 : Rul r_341 := by
  refine ⟨fun h => (by cases h), fun gi gv hg ρ M hm hB hF hG => ?_⟩
  obtain ⟨g1, g2⟩ := List.cons.inj (show ([aI ((0 : Int), ([(5, 1)] : List (Nat × Int))), aI ((0 : Int), ([(6, 1)] : List (Nat × Int)))] : List av) = [.inl gi, .inl gv] from hg)
  obtain ⟨g2, -⟩ := List.cons.inj g2
  cases g1
  cases g2
  have ei : ev ρ ((0 : Int), ([(5, 1)] : List (Nat × Int))) = ((ρ 5)) := by show 0 + (1 * ρ 5 + 0) = _; omega
  have ew : ev ρ ((0 : Int), ([(6, 1)] : List (Nat × Int))) = ((ρ 6)) := by show 0 + (1 * ρ 6 + 0) = _; omega
  rw [show (st M (ctj r_341) (ev ρ ((0 : Int), ([(5, 1)] : List (Nat × Int)))).toNat (ev ρ ((0 : Int), ([(6, 1)] : List (Nat × Int))))) = (st M 18 ((ρ 5)).toNat ((ρ 6))) from by rw [ei, ew]; rfl]
  have H := cr_341 M (ρ 0) (ρ 1) (ρ 2) (ρ 3) (ρ 4) (ρ 5) (ρ 6) (hB _ List.mem_cons_self) (hB _ (List.mem_cons_of_mem _ List.mem_cons_self)) (hB _ (List.mem_cons_of_mem _ (List.mem_cons_of_mem _ List.mem_cons_self))) (hB _ (List.mem_cons_of_mem _ (List.mem_cons_of_mem _ (List.mem_cons_of_mem _ List.mem_cons_self)))) (hB _ (List.mem_cons_of_mem _ (List.mem_cons_of_mem _ (List.mem_cons_of_mem _ (List.mem_cons_of_mem _ List.mem_cons_self))))) (hB _ (List.mem_cons_of_mem _ (List.mem_cons_of_mem _ (List.mem_cons_of_mem _ (List.mem_cons_of_mem _ (List.mem_cons_of_mem _ List.mem_cons_self)))))) (hB _ (List.mem_cons_of_mem _ (List.mem_cons_of_mem _ (List.mem_cons_of_mem _ (List.mem_cons_of_mem _ (List.mem_cons_of_mem _ (List.mem_cons_of_mem _ List.mem_cons_self))))))) (cvp 55 (x' := (4096 * (ρ 0) + (ρ 1))) (y' := ((ρ 2) + 32 * (ρ 3) + 1024 * (ρ 4))) (by show 0 + (4096 * ρ 0 + (1 * ρ 1 + 0)) = _; omega) (by show 0 + (1 * ρ 2 + (32 * ρ 3 + (1024 * ρ 4 + 0))) = _; omega) (hm _ List.mem_cons_self)) (by have h := hF _ List.mem_cons_self; have h : 0 ≤ 0 + ((-3) * ρ 3 + (1 * ρ 5 + 0)) := h; omega) hG
  obtain ⟨k0, -⟩ := H
  exact ⟨_, List.mem_cons_self, ρ, fun _ _ => rfl, (okM_c (pvp 55 (by show 0 + (4096 * ρ 0 + (1 * ρ 1 + 0)) = _; omega) (by show 0 + (1 * ρ 2 + (32 * ρ 3 + (1024 * ρ 4 + 0))) = _; omega) k0) okM_n), okB_n, okF_n⟩
-- cae_1
theorem cr_342 (M : pM) (s0 s1 s2 s3 s4 s5 s6 s7 s8 s9 s10 : Int) (b0 : 0 ≤ s0 ∧ s0 ≤ 1900) (b1 : 0 ≤ s1 ∧ s1 ≤ 950) (b2 : 0 ≤ s2 ∧ s2 ≤ 1900) (b3 : 0 ≤ s3 ∧ s3 ≤ 12) (b4 : 0 ≤ s4 ∧ s4 ≤ 20) (b5 : 0 ≤ s5 ∧ s5 ≤ 4) (b6 : 0 ≤ s6 ∧ s6 ≤ 7) (b7 : 0 ≤ s7 ∧ s7 ≤ 7) (b8 : 0 ≤ s8 ∧ s8 ≤ 40) (b9 : 0 ≤ s9 ∧ s9 ≤ 36) (b10 : 1 ≤ s10 ∧ s10 ≤ 36) (m0 : HP 55 (4096 * s0 + s1) (s3 + 32 * s4 + 1024 * s5) M) (m1 : HP 53 (4096 * s0 + s1) (256 * s2 + 73) M) (m2 : HP 79 (16 * s0 + 1) (s6) M) (m3 : HP 79 (16 * s0 + 2) (s7) M) (m4 : HP 79 (16 * s0 + 4) (s8) M) (m5 : HP 79 (16 * s0 + 6) (s9) M) (m6 : HP 79 (16 * s0 + 8) (s10) M) (m7 : (0 ≤ (4 * s3) ∧ M 17 (4 * s3).toNat = (s6 + 8 * s7))) (m8 : (0 ≤ (4 * s3 + 1) ∧ M 17 (4 * s3 + 1).toNat = (s8))) (m9 : (0 ≤ (4 * s3 + 2) ∧ M 17 (4 * s3 + 2).toNat = (s9))) (m10 : (0 ≤ (4 * s3 + 3) ∧ M 17 (4 * s3 + 3).toNat = (s10))) (f0 : 0 ≤ ((-1) * s3 + 11)) (hG : gI M) : (HP 57 (4096 * s0 + s1) (s3 + 32 * s4 + 1024 * s5 + 1) M ∧ True) := by
  exact ⟨Eq.mpr hp_57 (k_cae (w := s3) (r := s4) (g := s5) (P := s0) (l := s1) (Eq.mp hp_55 m0) (by omega) ⟨⟨by omega, by omega⟩, ⟨by omega, by omega⟩, by omega, by omega⟩ (ex_o (K := 4) (j := 8) (a := s2) (Eq.mp hp_53 m1) ⟨by omega, by omega, by decide, by decide⟩) ⟨by omega, by omega, by omega⟩ (q79 (P := s0) (i := 1) m2 ⟨by omega, by decide⟩ (by omega)) (q79 (P := s0) (i := 2) m3 ⟨by omega, by decide⟩ (by omega)) (q79 (P := s0) (i := 4) m4 ⟨by omega, by decide⟩ (by omega)) (q79 (P := s0) (i := 6) m5 ⟨by omega, by decide⟩ (by omega)) (q79 (P := s0) (i := 8) m6 ⟨by omega, by decide⟩ (by omega)) m7.2 m8.2 m9.2 m10.2 (by omega) (by omega)), trivial⟩
theorem rul_342 : Rul r_342 := by
  refine ⟨fun _ ρ M hm hB hF hG => ?_, fun gi gv hg => (by cases hg)⟩
  have H := cr_342 M (ρ 0) (ρ 1) (ρ 2) (ρ 3) (ρ 4) (ρ 5) (ρ 6) (ρ 7) (ρ 8) (ρ 9) (ρ 10) (hB _ List.mem_cons_self) (hB _ (List.mem_cons_of_mem _ List.mem_cons_self)) (hB _ (List.mem_cons_of_mem _ (List.mem_cons_of_mem _ List.mem_cons_self))) (hB _ (List.mem_cons_of_mem _ (List.mem_cons_of_mem _ (List.mem_cons_of_mem _ List.mem_cons_self)))) (hB _ (List.mem_cons_of_mem _ (List.mem_cons_of_mem _ (List.mem_cons_of_mem _ (List.mem_cons_of_mem _ List.mem_cons_self))))) (hB _ (List.mem_cons_of_mem _ (List.mem_cons_of_mem _ (List.mem_cons_of_mem _ (List.mem_cons_of_mem _ (List.mem_cons_of_mem _ List.mem_cons_self)))))) (hB _ (List.mem_cons_of_mem _ (List.mem_cons_of_mem _ (List.mem_cons_of_mem _ (List.mem_cons_of_mem _ (List.mem_cons_of_mem _ (List.mem_cons_of_mem _ List.mem_cons_self))))))) (hB _ (List.mem_cons_of_mem _ (List.mem_cons_of_mem _ (List.mem_cons_of_mem _ (List.mem_cons_of_mem _ (List.mem_cons_of_mem _ (List.mem_cons_of_mem _ (List.mem_cons_of_mem _ List.mem_cons_self)))))))) (hB _ (List.mem_cons_of_mem _ (List.mem_cons_of_mem _ (List.mem_cons_of_mem _ (List.mem_cons_of_mem _ (List.mem_cons_of_mem _ (List.mem_cons_of_mem _ (List.mem_cons_of_mem _ (List.mem_cons_of_mem _ List.mem_cons_self))))))))) (hB _ (List.mem_cons_of_mem _ (List.mem_cons_of_mem _ (List.mem_cons_of_mem _ (List.mem_cons_of_mem _ (List.mem_cons_of_mem _ (List.mem_cons_of_mem _ (List.mem_cons_of_mem _ (List.mem_cons_of_mem _ (List.mem_cons_of_mem _ List.mem_cons_self)))))))))) (hB _ (List.mem_cons_of_mem _ (List.mem_cons_of_mem _ (List.mem_cons_of_mem _ (List.mem_cons_of_mem _ (List.mem_cons_of_mem _ (List.mem_cons_of_mem _ (List.mem_cons_of_mem _ (List.mem_cons_of_mem _ (List.mem_cons_of_mem _ (List.mem_cons_of_mem _ List.mem_cons_self))))))))))) (cvp 55 (x' := (4096 * (ρ 0) + (ρ 1))) (y' := ((ρ 3) + 32 * (ρ 4) + 1024 * (ρ 5))) (by show 0 + (4096 * ρ 0 + (1 * ρ 1 + 0)) = _; omega) (by show 0 + (1 * ρ 3 + (32 * ρ 4 + (1024 * ρ 5 + 0))) = _; omega) (hm _ List.mem_cons_self)) (cvp 53 (x' := (4096 * (ρ 0) + (ρ 1))) (y' := (256 * (ρ 2) + 73)) (by show 0 + (4096 * ρ 0 + (1 * ρ 1 + 0)) = _; omega) (by show 73 + (256 * ρ 2 + 0) = _; omega) (hm _ (List.mem_cons_of_mem _ List.mem_cons_self))) (cvp 79 (x' := (16 * (ρ 0) + 1)) (y' := ((ρ 6))) (by show 1 + (16 * ρ 0 + 0) = _; omega) (by show 0 + (1 * ρ 6 + 0) = _; omega) (hm _ (List.mem_cons_of_mem _ (List.mem_cons_of_mem _ List.mem_cons_self)))) (cvp 79 (x' := (16 * (ρ 0) + 2)) (y' := ((ρ 7))) (by show 2 + (16 * ρ 0 + 0) = _; omega) (by show 0 + (1 * ρ 7 + 0) = _; omega) (hm _ (List.mem_cons_of_mem _ (List.mem_cons_of_mem _ (List.mem_cons_of_mem _ List.mem_cons_self))))) (cvp 79 (x' := (16 * (ρ 0) + 4)) (y' := ((ρ 8))) (by show 4 + (16 * ρ 0 + 0) = _; omega) (by show 0 + (1 * ρ 8 + 0) = _; omega) (hm _ (List.mem_cons_of_mem _ (List.mem_cons_of_mem _ (List.mem_cons_of_mem _ (List.mem_cons_of_mem _ List.mem_cons_self)))))) (cvp 79 (x' := (16 * (ρ 0) + 6)) (y' := ((ρ 9))) (by show 6 + (16 * ρ 0 + 0) = _; omega) (by show 0 + (1 * ρ 9 + 0) = _; omega) (hm _ (List.mem_cons_of_mem _ (List.mem_cons_of_mem _ (List.mem_cons_of_mem _ (List.mem_cons_of_mem _ (List.mem_cons_of_mem _ List.mem_cons_self))))))) (cvp 79 (x' := (16 * (ρ 0) + 8)) (y' := ((ρ 10))) (by show 8 + (16 * ρ 0 + 0) = _; omega) (by show 0 + (1 * ρ 10 + 0) = _; omega) (hm _ (List.mem_cons_of_mem _ (List.mem_cons_of_mem _ (List.mem_cons_of_mem _ (List.mem_cons_of_mem _ (List.mem_cons_of_mem _ (List.mem_cons_of_mem _ List.mem_cons_self)))))))) (cvm (c := 17) (by decide) (x' := (4 * (ρ 3))) (y' := ((ρ 6) + 8 * (ρ 7))) (by show 0 + (4 * ρ 3 + 0) = _; omega) (by show 0 + (1 * ρ 6 + (8 * ρ 7 + 0)) = _; omega) (hm _ (List.mem_cons_of_mem _ (List.mem_cons_of_mem _ (List.mem_cons_of_mem _ (List.mem_cons_of_mem _ (List.mem_cons_of_mem _ (List.mem_cons_of_mem _ (List.mem_cons_of_mem _ List.mem_cons_self))))))))) (cvm (c := 17) (by decide) (x' := (4 * (ρ 3) + 1)) (y' := ((ρ 8))) (by show 1 + (4 * ρ 3 + 0) = _; omega) (by show 0 + (1 * ρ 8 + 0) = _; omega) (hm _ (List.mem_cons_of_mem _ (List.mem_cons_of_mem _ (List.mem_cons_of_mem _ (List.mem_cons_of_mem _ (List.mem_cons_of_mem _ (List.mem_cons_of_mem _ (List.mem_cons_of_mem _ (List.mem_cons_of_mem _ List.mem_cons_self)))))))))) (cvm (c := 17) (by decide) (x' := (4 * (ρ 3) + 2)) (y' := ((ρ 9))) (by show 2 + (4 * ρ 3 + 0) = _; omega) (by show 0 + (1 * ρ 9 + 0) = _; omega) (hm _ (List.mem_cons_of_mem _ (List.mem_cons_of_mem _ (List.mem_cons_of_mem _ (List.mem_cons_of_mem _ (List.mem_cons_of_mem _ (List.mem_cons_of_mem _ (List.mem_cons_of_mem _ (List.mem_cons_of_mem _ (List.mem_cons_of_mem _ List.mem_cons_self))))))))))) (cvm (c := 17) (by decide) (x' := (4 * (ρ 3) + 3)) (y' := ((ρ 10))) (by show 3 + (4 * ρ 3 + 0) = _; omega) (by show 0 + (1 * ρ 10 + 0) = _; omega) (hm _ (List.mem_cons_of_mem _ (List.mem_cons_of_mem _ (List.mem_cons_of_mem _ (List.mem_cons_of_mem _ (List.mem_cons_of_mem _ (List.mem_cons_of_mem _ (List.mem_cons_of_mem _ (List.mem_cons_of_mem _ (List.mem_cons_of_mem _ (List.mem_cons_of_mem _ List.mem_cons_self)))))))))))) (by have h := hF _ List.mem_cons_self; have h : 0 ≤ 11 + ((-1) * ρ 3 + 0) := h; omega) hG
  obtain ⟨k0, -⟩ := H
  exact ⟨_, List.mem_cons_self, ρ, fun _ _ => rfl, (okM_c (pvp 57 (by show 0 + (4096 * ρ 0 + (1 * ρ 1 + 0)) = _; omega) (by show 1 + (1 * ρ 3 + (32 * ρ 4 + (1024 * ρ 5 + 0))) = _; omega) k0) okM_n), okB_n, okF_n⟩
-- cre_1
theorem cr_343 (M : pM) (s0 s1 s2 s3 s4 s5 s6 s7 s8 s9 s10 : Int) (b0 : 0 ≤ s0 ∧ s0 ≤ 1900) (b1 : 0 ≤ s1 ∧ s1 ≤ 950) (b2 : 0 ≤ s2 ∧ s2 ≤ 1900) (b3 : 0 ≤ s3 ∧ s3 ≤ 12) (b4 : 0 ≤ s4 ∧ s4 ≤ 20) (b5 : 0 ≤ s5 ∧ s5 ≤ 4) (b6 : 0 ≤ s6 ∧ s6 ≤ 7) (b7 : 0 ≤ s7 ∧ s7 ≤ 7) (b8 : 0 ≤ s8 ∧ s8 ≤ 7) (b9 : 0 ≤ s9 ∧ s9 ≤ 7) (b10 : 1 ≤ s10 ∧ s10 ≤ 99) (m0 : HP 55 (4096 * s0 + s1) (s3 + 32 * s4 + 1024 * s5) M) (m1 : HP 53 (4096 * s0 + s1) (256 * s2 + 150) M) (m2 : HP 79 (16 * s0 + 1) (s6) M) (m3 : HP 79 (16 * s0 + 2) (s7) M) (m4 : HP 79 (16 * s0 + 3) (s8) M) (m5 : HP 79 (16 * s0 + 4) (s9) M) (m6 : HP 79 (16 * s0 + 5) (s10) M) (m7 : (0 ≤ (3 * s4) ∧ M 18 (3 * s4).toNat = (s6 + 8 * s7))) (m8 : (0 ≤ (3 * s4 + 1) ∧ M 18 (3 * s4 + 1).toNat = (s8 + 8 * s9))) (m9 : (0 ≤ (3 * s4 + 2) ∧ M 18 (3 * s4 + 2).toNat = (s10))) (f0 : 0 ≤ ((-1) * s4 + 19)) (hG : gI M) : (HP 57 (4096 * s0 + s1) (s3 + 32 * s4 + 1024 * s5 + 32) M ∧ True) := by
  exact ⟨Eq.mpr hp_57 (k_cre (w := s3) (r := s4) (g := s5) (P := s0) (l := s1) (Eq.mp hp_55 m0) (by omega) ⟨⟨by omega, by omega⟩, ⟨by omega, by omega⟩, by omega, by omega⟩ (ex_o (K := 9) (j := 5) (a := s2) (Eq.mp hp_53 m1) ⟨by omega, by omega, by decide, by decide⟩) ⟨by omega, by omega, by omega⟩ (q79 (P := s0) (i := 1) m2 ⟨by omega, by decide⟩ (by omega)) (q79 (P := s0) (i := 2) m3 ⟨by omega, by decide⟩ (by omega)) (q79 (P := s0) (i := 3) m4 ⟨by omega, by decide⟩ (by omega)) (q79 (P := s0) (i := 4) m5 ⟨by omega, by decide⟩ (by omega)) (q79 (P := s0) (i := 5) m6 ⟨by omega, by decide⟩ (by omega)) m7.2 m8.2 m9.2 (by omega) (by omega)), trivial⟩
theorem rul_343 : Rul r_343 := by
  refine ⟨fun _ ρ M hm hB hF hG => ?_, fun gi gv hg => (by cases hg)⟩
  have H := cr_343 M (ρ 0) (ρ 1) (ρ 2) (ρ 3) (ρ 4) (ρ 5) (ρ 6) (ρ 7) (ρ 8) (ρ 9) (ρ 10) (hB _ List.mem_cons_self) (hB _ (List.mem_cons_of_mem _ List.mem_cons_self)) (hB _ (List.mem_cons_of_mem _ (List.mem_cons_of_mem _ List.mem_cons_self))) (hB _ (List.mem_cons_of_mem _ (List.mem_cons_of_mem _ (List.mem_cons_of_mem _ List.mem_cons_self)))) (hB _ (List.mem_cons_of_mem _ (List.mem_cons_of_mem _ (List.mem_cons_of_mem _ (List.mem_cons_of_mem _ List.mem_cons_self))))) (hB _ (List.mem_cons_of_mem _ (List.mem_cons_of_mem _ (List.mem_cons_of_mem _ (List.mem_cons_of_mem _ (List.mem_cons_of_mem _ List.mem_cons_self)))))) (hB _ (List.mem_cons_of_mem _ (List.mem_cons_of_mem _ (List.mem_cons_of_mem _ (List.mem_cons_of_mem _ (List.mem_cons_of_mem _ (List.mem_cons_of_mem _ List.mem_cons_self))))))) (hB _ (List.mem_cons_of_mem _ (List.mem_cons_of_mem _ (List.mem_cons_of_mem _ (List.mem_cons_of_mem _ (List.mem_cons_of_mem _ (List.mem_cons_of_mem _ (List.mem_cons_of_mem _ List.mem_cons_self)))))))) (hB _ (List.mem_cons_of_mem _ (List.mem_cons_of_mem _ (List.mem_cons_of_mem _ (List.mem_cons_of_mem _ (List.mem_cons_of_mem _ (List.mem_cons_of_mem _ (List.mem_cons_of_mem _ (List.mem_cons_of_mem _ List.mem_cons_self))))))))) (hB _ (List.mem_cons_of_mem _ (List.mem_cons_of_mem _ (List.mem_cons_of_mem _ (List.mem_cons_of_mem _ (List.mem_cons_of_mem _ (List.mem_cons_of_mem _ (List.mem_cons_of_mem _ (List.mem_cons_of_mem _ (List.mem_cons_of_mem _ List.mem_cons_self)))))))))) (hB _ (List.mem_cons_of_mem _ (List.mem_cons_of_mem _ (List.mem_cons_of_mem _ (List.mem_cons_of_mem _ (List.mem_cons_of_mem _ (List.mem_cons_of_mem _ (List.mem_cons_of_mem _ (List.mem_cons_of_mem _ (List.mem_cons_of_mem _ (List.mem_cons_of_mem _ List.mem_cons_self))))))))))) (cvp 55 (x' := (4096 * (ρ 0) + (ρ 1))) (y' := ((ρ 3) + 32 * (ρ 4) + 1024 * (ρ 5))) (by show 0 + (4096 * ρ 0 + (1 * ρ 1 + 0)) = _; omega) (by show 0 + (1 * ρ 3 + (32 * ρ 4 + (1024 * ρ 5 + 0))) = _; omega) (hm _ List.mem_cons_self)) (cvp 53 (x' := (4096 * (ρ 0) + (ρ 1))) (y' := (256 * (ρ 2) + 150)) (by show 0 + (4096 * ρ 0 + (1 * ρ 1 + 0)) = _; omega) (by show 150 + (256 * ρ 2 + 0) = _; omega) (hm _ (List.mem_cons_of_mem _ List.mem_cons_self))) (cvp 79 (x' := (16 * (ρ 0) + 1)) (y' := ((ρ 6))) (by show 1 + (16 * ρ 0 + 0) = _; omega) (by show 0 + (1 * ρ 6 + 0) = _; omega) (hm _ (List.mem_cons_of_mem _ (List.mem_cons_of_mem _ List.mem_cons_self)))) (cvp 79 (x' := (16 * (ρ 0) + 2)) (y' := ((ρ 7))) (by show 2 + (16 * ρ 0 + 0) = _; omega) (by show 0 + (1 * ρ 7 + 0) = _; omega) (hm _ (List.mem_cons_of_mem _ (List.mem_cons_of_mem _ (List.mem_cons_of_mem _ List.mem_cons_self))))) (cvp 79 (x' := (16 * (ρ 0) + 3)) (y' := ((ρ 8))) (by show 3 + (16 * ρ 0 + 0) = _; omega) (by show 0 + (1 * ρ 8 + 0) = _; omega) (hm _ (List.mem_cons_of_mem _ (List.mem_cons_of_mem _ (List.mem_cons_of_mem _ (List.mem_cons_of_mem _ List.mem_cons_self)))))) (cvp 79 (x' := (16 * (ρ 0) + 4)) (y' := ((ρ 9))) (by show 4 + (16 * ρ 0 + 0) = _; omega) (by show 0 + (1 * ρ 9 + 0) = _; omega) (hm _ (List.mem_cons_of_mem _ (List.mem_cons_of_mem _ (List.mem_cons_of_mem _ (List.mem_cons_of_mem _ (List.mem_cons_of_mem _ List.mem_cons_self))))))) (cvp 79 (x' := (16 * (ρ 0) + 5)) (y' := ((ρ 10))) (by show 5 + (16 * ρ 0 + 0) = _; omega) (by show 0 + (1 * ρ 10 + 0) = _; omega) (hm _ (List.mem_cons_of_mem _ (List.mem_cons_of_mem _ (List.mem_cons_of_mem _ (List.mem_cons_of_mem _ (List.mem_cons_of_mem _ (List.mem_cons_of_mem _ List.mem_cons_self)))))))) (cvm (c := 18) (by decide) (x' := (3 * (ρ 4))) (y' := ((ρ 6) + 8 * (ρ 7))) (by show 0 + (3 * ρ 4 + 0) = _; omega) (by show 0 + (1 * ρ 6 + (8 * ρ 7 + 0)) = _; omega) (hm _ (List.mem_cons_of_mem _ (List.mem_cons_of_mem _ (List.mem_cons_of_mem _ (List.mem_cons_of_mem _ (List.mem_cons_of_mem _ (List.mem_cons_of_mem _ (List.mem_cons_of_mem _ List.mem_cons_self))))))))) (cvm (c := 18) (by decide) (x' := (3 * (ρ 4) + 1)) (y' := ((ρ 8) + 8 * (ρ 9))) (by show 1 + (3 * ρ 4 + 0) = _; omega) (by show 0 + (1 * ρ 8 + (8 * ρ 9 + 0)) = _; omega) (hm _ (List.mem_cons_of_mem _ (List.mem_cons_of_mem _ (List.mem_cons_of_mem _ (List.mem_cons_of_mem _ (List.mem_cons_of_mem _ (List.mem_cons_of_mem _ (List.mem_cons_of_mem _ (List.mem_cons_of_mem _ List.mem_cons_self)))))))))) (cvm (c := 18) (by decide) (x' := (3 * (ρ 4) + 2)) (y' := ((ρ 10))) (by show 2 + (3 * ρ 4 + 0) = _; omega) (by show 0 + (1 * ρ 10 + 0) = _; omega) (hm _ (List.mem_cons_of_mem _ (List.mem_cons_of_mem _ (List.mem_cons_of_mem _ (List.mem_cons_of_mem _ (List.mem_cons_of_mem _ (List.mem_cons_of_mem _ (List.mem_cons_of_mem _ (List.mem_cons_of_mem _ (List.mem_cons_of_mem _ List.mem_cons_self))))))))))) (by have h := hF _ List.mem_cons_self; have h : 0 ≤ 19 + ((-1) * ρ 4 + 0) := h; omega) hG
  obtain ⟨k0, -⟩ := H
  exact ⟨_, List.mem_cons_self, ρ, fun _ _ => rfl, (okM_c (pvp 57 (by show 0 + (4096 * ρ 0 + (1 * ρ 1 + 0)) = _; omega) (by show 32 + (1 * ρ 3 + (32 * ρ 4 + (1024 * ρ 5 + 0))) = _; omega) k0) okM_n), okB_n, okF_n⟩
-- cs0_1
theorem cr_344 (M : pM) (s0 s1 s2 s3 s4 : Int) (b0 : 0 ≤ s0 ∧ s0 ≤ 1900) (b1 : 0 ≤ s1 ∧ s1 ≤ 950) (b2 : 0 ≤ s2 ∧ s2 ≤ 12) (b3 : 0 ≤ s3 ∧ s3 ≤ 20) (b4 : 0 ≤ s4 ∧ s4 ≤ 4) (m0 : HP 55 (4096 * s0 + s1) (s2 + 32 * s3 + 1024 * s4) M) (hG : gI M) : (HP 86 (4096 * s0 + s1) (s2 + 32 * s3 + 1024 * s4) M ∧ True) := by
  exact ⟨Eq.mpr hp_86 (k_cs0 (Eq.mp hp_55 m0)), trivial⟩
theorem rul_344 : Rul r_344 := by
  refine ⟨fun _ ρ M hm hB hF hG => ?_, fun gi gv hg => (by cases hg)⟩
  have H := cr_344 M (ρ 0) (ρ 1) (ρ 2) (ρ 3) (ρ 4) (hB _ List.mem_cons_self) (hB _ (List.mem_cons_of_mem _ List.mem_cons_self)) (hB _ (List.mem_cons_of_mem _ (List.mem_cons_of_mem _ List.mem_cons_self))) (hB _ (List.mem_cons_of_mem _ (List.mem_cons_of_mem _ (List.mem_cons_of_mem _ List.mem_cons_self)))) (hB _ (List.mem_cons_of_mem _ (List.mem_cons_of_mem _ (List.mem_cons_of_mem _ (List.mem_cons_of_mem _ List.mem_cons_self))))) (cvp 55 (x' := (4096 * (ρ 0) + (ρ 1))) (y' := ((ρ 2) + 32 * (ρ 3) + 1024 * (ρ 4))) (by show 0 + (4096 * ρ 0 + (1 * ρ 1 + 0)) = _; omega) (by show 0 + (1 * ρ 2 + (32 * ρ 3 + (1024 * ρ 4 + 0))) = _; omega) (hm _ List.mem_cons_self)) hG
  obtain ⟨k0, -⟩ := H
  exact ⟨_, List.mem_cons_self, ρ, fun _ _ => rfl, (okM_c (pvp 86 (by show 0 + (4096 * ρ 0 + (1 * ρ 1 + 0)) = _; omega) (by show 0 + (1 * ρ 2 + (32 * ρ 3 + (1024 * ρ 4 + 0))) = _; omega) k0) okM_n), okB_n, okF_n⟩
-- csw_1
theorem cr_345 (M : pM) (s0 s1 s2 s3 s4 s5 s6 : Int) (b0 : 0 ≤ s0 ∧ s0 ≤ 1900) (b1 : 0 ≤ s1 ∧ s1 ≤ 950) (b2 : 0 ≤ s2 ∧ s2 ≤ 12) (b3 : 0 ≤ s3 ∧ s3 ≤ 20) (b4 : 0 ≤ s4 ∧ s4 ≤ 3) (b5 : 0 ≤ s5 ∧ s5 ≤ 3) (b6 : 0 ≤ s6 ∧ s6 ≤ 30) (m0 : HP 55 (4096 * s0 + s1) (s2 + 32 * s3 + 1024 * s4) M) (m1 : HP 86 (4096 * s0 + s1) (s2 + 32 * s3 + 1024 * s4 + 8192 * s5) M) (m2 : HP 79 (16 * s0 + s5 + 3) (s6) M) (hG : gI M) : (HP 55 (4096 * s0 + s1) (s2 + 32 * s3 + 1024 * s4) (st M 20 (5 * s4 + s5).toNat (s6)) ∧ HP 86 (4096 * s0 + s1) (s2 + 32 * s3 + 1024 * s4 + 8192 * s5 + 8192) (st M 20 (5 * s4 + s5).toNat (s6)) ∧ True) := by
  have hv := q79 (P := s0) (i := 3 + s5.toNat) m2 ⟨by omega, by omega⟩ (by omega)
  have hq : qRc 1 (st M 20 (5 * s4.toNat + s5.toNat) (s6)) = qU (qRc 1 M) 7 (5 * s4.toNat + s5.toNat) (s6) := qRc_st (b := 1) (k := 7)
  have ht : tm (st M 20 (5 * s4.toNat + s5.toNat) (s6)) = tm M := tm_st (by decide) (by decide)
  rw [show (5 * s4 + s5).toNat = 5 * s4.toNat + s5.toNat by omega]
  refine ⟨Eq.mpr hp_55 ?_, Eq.mpr hp_86 ?_, trivial⟩
  · rw [ht, hq]
    exact k_cah (w := s2) (r := s3) (g := s4) (Eq.mp hp_55 m0) (by omega) ⟨⟨by omega, by omega⟩, ⟨by omega, by omega⟩, by omega, by omega⟩ (by omega)
  · rw [ht, hq]
    exact k_csw (k := s5.toNat) (w := s2) (r := s3) (g := s4) (P := s0) (l := s1) (Eq.mp hp_86 m1) (by omega) ⟨⟨by omega, by omega⟩, ⟨by omega, by omega⟩, by omega, by omega⟩ (by omega) ⟨by omega, by omega, by omega⟩ (by rw [if_pos (by omega)]; exact hv) (by omega)
theorem rul_345 : Rul r_345 := by
  refine ⟨fun h => (by cases h), fun gi gv hg ρ M hm hB hF hG => ?_⟩
  obtain ⟨g1, g2⟩ := List.cons.inj (show ([aI ((0 : Int), ([(4, 5), (5, 1)] : List (Nat × Int))), aI ((0 : Int), ([(6, 1)] : List (Nat × Int)))] : List av) = [.inl gi, .inl gv] from hg)
  obtain ⟨g2, -⟩ := List.cons.inj g2
  cases g1
  cases g2
  have ei : ev ρ ((0 : Int), ([(4, 5), (5, 1)] : List (Nat × Int))) = (5 * (ρ 4) + (ρ 5)) := by show 0 + (5 * ρ 4 + (1 * ρ 5 + 0)) = _; omega
  have ew : ev ρ ((0 : Int), ([(6, 1)] : List (Nat × Int))) = ((ρ 6)) := by show 0 + (1 * ρ 6 + 0) = _; omega
  rw [show (st M (ctj r_345) (ev ρ ((0 : Int), ([(4, 5), (5, 1)] : List (Nat × Int)))).toNat (ev ρ ((0 : Int), ([(6, 1)] : List (Nat × Int))))) = (st M 20 (5 * (ρ 4) + (ρ 5)).toNat ((ρ 6))) from by rw [ei, ew]; rfl]
  have H := cr_345 M (ρ 0) (ρ 1) (ρ 2) (ρ 3) (ρ 4) (ρ 5) (ρ 6) (hB _ List.mem_cons_self) (hB _ (List.mem_cons_of_mem _ List.mem_cons_self)) (hB _ (List.mem_cons_of_mem _ (List.mem_cons_of_mem _ List.mem_cons_self))) (hB _ (List.mem_cons_of_mem _ (List.mem_cons_of_mem _ (List.mem_cons_of_mem _ List.mem_cons_self)))) (hB _ (List.mem_cons_of_mem _ (List.mem_cons_of_mem _ (List.mem_cons_of_mem _ (List.mem_cons_of_mem _ List.mem_cons_self))))) (hB _ (List.mem_cons_of_mem _ (List.mem_cons_of_mem _ (List.mem_cons_of_mem _ (List.mem_cons_of_mem _ (List.mem_cons_of_mem _ List.mem_cons_self)))))) (hB _ (List.mem_cons_of_mem _ (List.mem_cons_of_mem _ (List.mem_cons_of_mem _ (List.mem_cons_of_mem _ (List.mem_cons_of_mem _ (List.mem_cons_of_mem _ List.mem_cons_self))))))) (cvp 55 (x' := (4096 * (ρ 0) + (ρ 1))) (y' := ((ρ 2) + 32 * (ρ 3) + 1024 * (ρ 4))) (by show 0 + (4096 * ρ 0 + (1 * ρ 1 + 0)) = _; omega) (by show 0 + (1 * ρ 2 + (32 * ρ 3 + (1024 * ρ 4 + 0))) = _; omega) (hm _ List.mem_cons_self)) (cvp 86 (x' := (4096 * (ρ 0) + (ρ 1))) (y' := ((ρ 2) + 32 * (ρ 3) + 1024 * (ρ 4) + 8192 * (ρ 5))) (by show 0 + (4096 * ρ 0 + (1 * ρ 1 + 0)) = _; omega) (by show 0 + (1 * ρ 2 + (32 * ρ 3 + (1024 * ρ 4 + (8192 * ρ 5 + 0)))) = _; omega) (hm _ (List.mem_cons_of_mem _ List.mem_cons_self))) (cvp 79 (x' := (16 * (ρ 0) + (ρ 5) + 3)) (y' := ((ρ 6))) (by show 3 + (16 * ρ 0 + (1 * ρ 5 + 0)) = _; omega) (by show 0 + (1 * ρ 6 + 0) = _; omega) (hm _ (List.mem_cons_of_mem _ (List.mem_cons_of_mem _ List.mem_cons_self)))) hG
  obtain ⟨k0, k1, -⟩ := H
  exact ⟨_, List.mem_cons_self, ρ, fun _ _ => rfl, (okM_c (pvp 55 (by show 0 + (4096 * ρ 0 + (1 * ρ 1 + 0)) = _; omega) (by show 0 + (1 * ρ 2 + (32 * ρ 3 + (1024 * ρ 4 + 0))) = _; omega) k0) (okM_c (pvp 86 (by show 0 + (4096 * ρ 0 + (1 * ρ 1 + 0)) = _; omega) (by show 8192 + (1 * ρ 2 + (32 * ρ 3 + (1024 * ρ 4 + (8192 * ρ 5 + 0)))) = _; omega) k1) okM_n)), okB_n, okF_n⟩
-- chw_1
theorem cr_346 (M : pM) (s0 s1 s2 s3 s4 s5 : Int) (b0 : 0 ≤ s0 ∧ s0 ≤ 1900) (b1 : 0 ≤ s1 ∧ s1 ≤ 950) (b2 : 0 ≤ s2 ∧ s2 ≤ 12) (b3 : 0 ≤ s3 ∧ s3 ≤ 20) (b4 : 0 ≤ s4 ∧ s4 ≤ 3) (b5 : 50 ≤ s5 ∧ s5 ≤ 200) (m0 : HP 55 (4096 * s0 + s1) (s2 + 32 * s3 + 1024 * s4) M) (m1 : HP 86 (4096 * s0 + s1) (s2 + 32 * s3 + 1024 * s4 + 32768) M) (m2 : HP 79 (16 * s0 + 8) (s5) M) (hG : gI M) : (HP 55 (4096 * s0 + s1) (s2 + 32 * s3 + 1024 * s4) (st M 20 (5 * s4 + 4).toNat (s5)) ∧ HP 86 (4096 * s0 + s1) (s2 + 32 * s3 + 1024 * s4 + 40960) (st M 20 (5 * s4 + 4).toNat (s5)) ∧ True) := by
  have hv := q79 (P := s0) (i := 8) m2 ⟨by omega, by omega⟩ (by omega)
  have hq : qRc 1 (st M 20 (5 * s4.toNat + 4) (s5)) = qU (qRc 1 M) 7 (5 * s4.toNat + 4) (s5) := qRc_st (b := 1) (k := 7)
  have ht : tm (st M 20 (5 * s4.toNat + 4) (s5)) = tm M := tm_st (by decide) (by decide)
  rw [show (5 * s4 + 4).toNat = 5 * s4.toNat + 4 by omega]
  refine ⟨Eq.mpr hp_55 ?_, Eq.mpr hp_86 ?_, trivial⟩
  · rw [ht, hq]
    exact k_cah (w := s2) (r := s3) (g := s4) (Eq.mp hp_55 m0) (by omega) ⟨⟨by omega, by omega⟩, ⟨by omega, by omega⟩, by omega, by omega⟩ (by omega)
  · rw [ht, hq]
    exact k_csw (k := 4) (w := s2) (r := s3) (g := s4) (P := s0) (l := s1) (Eq.mp hp_86 m1) (by omega) ⟨⟨by omega, by omega⟩, ⟨by omega, by omega⟩, by omega, by omega⟩ (by omega) ⟨by omega, by omega, by omega⟩ (by rw [if_neg (by decide)]; exact hv) (by omega)
theorem rul_346 : Rul r_346 := by
  refine ⟨fun h => (by cases h), fun gi gv hg ρ M hm hB hF hG => ?_⟩
  obtain ⟨g1, g2⟩ := List.cons.inj (show ([aI ((4 : Int), ([(4, 5)] : List (Nat × Int))), aI ((0 : Int), ([(5, 1)] : List (Nat × Int)))] : List av) = [.inl gi, .inl gv] from hg)
  obtain ⟨g2, -⟩ := List.cons.inj g2
  cases g1
  cases g2
  have ei : ev ρ ((4 : Int), ([(4, 5)] : List (Nat × Int))) = (5 * (ρ 4) + 4) := by show 4 + (5 * ρ 4 + 0) = _; omega
  have ew : ev ρ ((0 : Int), ([(5, 1)] : List (Nat × Int))) = ((ρ 5)) := by show 0 + (1 * ρ 5 + 0) = _; omega
  rw [show (st M (ctj r_346) (ev ρ ((4 : Int), ([(4, 5)] : List (Nat × Int)))).toNat (ev ρ ((0 : Int), ([(5, 1)] : List (Nat × Int))))) = (st M 20 (5 * (ρ 4) + 4).toNat ((ρ 5))) from by rw [ei, ew]; rfl]
  have H := cr_346 M (ρ 0) (ρ 1) (ρ 2) (ρ 3) (ρ 4) (ρ 5) (hB _ List.mem_cons_self) (hB _ (List.mem_cons_of_mem _ List.mem_cons_self)) (hB _ (List.mem_cons_of_mem _ (List.mem_cons_of_mem _ List.mem_cons_self))) (hB _ (List.mem_cons_of_mem _ (List.mem_cons_of_mem _ (List.mem_cons_of_mem _ List.mem_cons_self)))) (hB _ (List.mem_cons_of_mem _ (List.mem_cons_of_mem _ (List.mem_cons_of_mem _ (List.mem_cons_of_mem _ List.mem_cons_self))))) (hB _ (List.mem_cons_of_mem _ (List.mem_cons_of_mem _ (List.mem_cons_of_mem _ (List.mem_cons_of_mem _ (List.mem_cons_of_mem _ List.mem_cons_self)))))) (cvp 55 (x' := (4096 * (ρ 0) + (ρ 1))) (y' := ((ρ 2) + 32 * (ρ 3) + 1024 * (ρ 4))) (by show 0 + (4096 * ρ 0 + (1 * ρ 1 + 0)) = _; omega) (by show 0 + (1 * ρ 2 + (32 * ρ 3 + (1024 * ρ 4 + 0))) = _; omega) (hm _ List.mem_cons_self)) (cvp 86 (x' := (4096 * (ρ 0) + (ρ 1))) (y' := ((ρ 2) + 32 * (ρ 3) + 1024 * (ρ 4) + 32768)) (by show 0 + (4096 * ρ 0 + (1 * ρ 1 + 0)) = _; omega) (by show 32768 + (1 * ρ 2 + (32 * ρ 3 + (1024 * ρ 4 + 0))) = _; omega) (hm _ (List.mem_cons_of_mem _ List.mem_cons_self))) (cvp 79 (x' := (16 * (ρ 0) + 8)) (y' := ((ρ 5))) (by show 8 + (16 * ρ 0 + 0) = _; omega) (by show 0 + (1 * ρ 5 + 0) = _; omega) (hm _ (List.mem_cons_of_mem _ (List.mem_cons_of_mem _ List.mem_cons_self)))) hG
  obtain ⟨k0, k1, -⟩ := H
  exact ⟨_, List.mem_cons_self, ρ, fun _ _ => rfl, (okM_c (pvp 55 (by show 0 + (4096 * ρ 0 + (1 * ρ 1 + 0)) = _; omega) (by show 0 + (1 * ρ 2 + (32 * ρ 3 + (1024 * ρ 4 + 0))) = _; omega) k0) (okM_c (pvp 86 (by show 0 + (4096 * ρ 0 + (1 * ρ 1 + 0)) = _; omega) (by show 40960 + (1 * ρ 2 + (32 * ρ 3 + (1024 * ρ 4 + 0))) = _; omega) k1) okM_n)), okB_n, okF_n⟩
-- fkid0_1
theorem cr_347 (M : pM) (s0 s1 s2 s3 : Int) (b0 : 0 ≤ s0 ∧ s0 ≤ 1900) (b1 : 0 ≤ s1 ∧ s1 ≤ 950) (b2 : 0 ≤ s2 ∧ s2 ≤ 1900) (m0 : HP 94 (4096 * s0 + s1) (s3) M) (m1 : HP 53 (4096 * s0 + s1) (256 * s2 + 3) M) (hG : gI M) : (HP 95 (4096 * s0 + s1) (s3) M ∧ True) := by
  exact ⟨Eq.mpr hp_95 (k_mid (K := 0) (Eq.mp hp_94 m0) (ex_o (K := 0) (j := 2) (a := s2) (Eq.mp hp_53 m1) ⟨by omega, by omega, by decide, by decide⟩) (fun _ _ => rfl)), trivial⟩
theorem rul_347 : Rul r_347 := by
  refine ⟨fun _ ρ M hm hB hF hG => ?_, fun gi gv hg => (by cases hg)⟩
  have H := cr_347 M (ρ 0) (ρ 1) (ρ 2) (ρ 3) (hB _ List.mem_cons_self) (hB _ (List.mem_cons_of_mem _ List.mem_cons_self)) (hB _ (List.mem_cons_of_mem _ (List.mem_cons_of_mem _ List.mem_cons_self))) (cvp 94 (x' := (4096 * (ρ 0) + (ρ 1))) (y' := ((ρ 3))) (by show 0 + (4096 * ρ 0 + (1 * ρ 1 + 0)) = _; omega) (by show 0 + (1 * ρ 3 + 0) = _; omega) (hm _ List.mem_cons_self)) (cvp 53 (x' := (4096 * (ρ 0) + (ρ 1))) (y' := (256 * (ρ 2) + 3)) (by show 0 + (4096 * ρ 0 + (1 * ρ 1 + 0)) = _; omega) (by show 3 + (256 * ρ 2 + 0) = _; omega) (hm _ (List.mem_cons_of_mem _ List.mem_cons_self))) hG
  obtain ⟨k0, -⟩ := H
  exact ⟨_, List.mem_cons_self, ρ, fun _ _ => rfl, (okM_c (pvp 95 (by show 0 + (4096 * ρ 0 + (1 * ρ 1 + 0)) = _; omega) (by show 0 + (1 * ρ 3 + 0) = _; omega) k0) okM_n), okB_n, okF_n⟩
-- fkid1_1
theorem cr_348 (M : pM) (s0 s1 s2 s3 : Int) (b0 : 0 ≤ s0 ∧ s0 ≤ 1900) (b1 : 0 ≤ s1 ∧ s1 ≤ 950) (b2 : 0 ≤ s2 ∧ s2 ≤ 1900) (m0 : HP 94 (4096 * s0 + s1) (s3) M) (m1 : HP 53 (4096 * s0 + s1) (256 * s2 + 24) M) (hG : gI M) : (HP 95 (4096 * s0 + s1) (s3) M ∧ True) := by
  exact ⟨Eq.mpr hp_95 (k_mid (K := 1) (Eq.mp hp_94 m0) (ex_o (K := 1) (j := 7) (a := s2) (Eq.mp hp_53 m1) ⟨by omega, by omega, by decide, by decide⟩) (fun _ _ => rfl)), trivial⟩
theorem rul_348 : Rul r_348 := by
  refine ⟨fun _ ρ M hm hB hF hG => ?_, fun gi gv hg => (by cases hg)⟩
  have H := cr_348 M (ρ 0) (ρ 1) (ρ 2) (ρ 3) (hB _ List.mem_cons_self) (hB _ (List.mem_cons_of_mem _ List.mem_cons_self)) (hB _ (List.mem_cons_of_mem _ (List.mem_cons_of_mem _ List.mem_cons_self))) (cvp 94 (x' := (4096 * (ρ 0) + (ρ 1))) (y' := ((ρ 3))) (by show 0 + (4096 * ρ 0 + (1 * ρ 1 + 0)) = _; omega) (by show 0 + (1 * ρ 3 + 0) = _; omega) (hm _ List.mem_cons_self)) (cvp 53 (x' := (4096 * (ρ 0) + (ρ 1))) (y' := (256 * (ρ 2) + 24)) (by show 0 + (4096 * ρ 0 + (1 * ρ 1 + 0)) = _; omega) (by show 24 + (256 * ρ 2 + 0) = _; omega) (hm _ (List.mem_cons_of_mem _ List.mem_cons_self))) hG
  obtain ⟨k0, -⟩ := H
  exact ⟨_, List.mem_cons_self, ρ, fun _ _ => rfl, (okM_c (pvp 95 (by show 0 + (4096 * ρ 0 + (1 * ρ 1 + 0)) = _; omega) (by show 0 + (1 * ρ 3 + 0) = _; omega) k0) okM_n), okB_n, okF_n⟩
-- fkid2_1
theorem cr_349 (M : pM) (s0 s1 s2 s3 : Int) (b0 : 0 ≤ s0 ∧ s0 ≤ 1900) (b1 : 0 ≤ s1 ∧ s1 ≤ 950) (b2 : 0 ≤ s2 ∧ s2 ≤ 1900) (m0 : HP 94 (4096 * s0 + s1) (s3) M) (m1 : HP 53 (4096 * s0 + s1) (256 * s2 + 36) M) (hG : gI M) : (HP 95 (4096 * s0 + s1) (s3) M ∧ True) := by
  exact ⟨Eq.mpr hp_95 (k_mid (K := 2) (Eq.mp hp_94 m0) (ex_o (K := 2) (j := 3) (a := s2) (Eq.mp hp_53 m1) ⟨by omega, by omega, by decide, by decide⟩) (fun _ _ => rfl)), trivial⟩
theorem rul_349 : Rul r_349 := by
  refine ⟨fun _ ρ M hm hB hF hG => ?_, fun gi gv hg => (by cases hg)⟩
  have H := cr_349 M (ρ 0) (ρ 1) (ρ 2) (ρ 3) (hB _ List.mem_cons_self) (hB _ (List.mem_cons_of_mem _ List.mem_cons_self)) (hB _ (List.mem_cons_of_mem _ (List.mem_cons_of_mem _ List.mem_cons_self))) (cvp 94 (x' := (4096 * (ρ 0) + (ρ 1))) (y' := ((ρ 3))) (by show 0 + (4096 * ρ 0 + (1 * ρ 1 + 0)) = _; omega) (by show 0 + (1 * ρ 3 + 0) = _; omega) (hm _ List.mem_cons_self)) (cvp 53 (x' := (4096 * (ρ 0) + (ρ 1))) (y' := (256 * (ρ 2) + 36)) (by show 0 + (4096 * ρ 0 + (1 * ρ 1 + 0)) = _; omega) (by show 36 + (256 * ρ 2 + 0) = _; omega) (hm _ (List.mem_cons_of_mem _ List.mem_cons_self))) hG
  obtain ⟨k0, -⟩ := H
  exact ⟨_, List.mem_cons_self, ρ, fun _ _ => rfl, (okM_c (pvp 95 (by show 0 + (4096 * ρ 0 + (1 * ρ 1 + 0)) = _; omega) (by show 0 + (1 * ρ 3 + 0) = _; omega) k0) okM_n), okB_n, okF_n⟩
-- fkid3_1
theorem cr_350 (M : pM) (s0 s1 s2 s3 : Int) (b0 : 0 ≤ s0 ∧ s0 ≤ 1900) (b1 : 0 ≤ s1 ∧ s1 ≤ 950) (b2 : 0 ≤ s2 ∧ s2 ≤ 1900) (m0 : HP 94 (4096 * s0 + s1) (s3) M) (m1 : HP 53 (4096 * s0 + s1) (256 * s2 + 51) M) (hG : gI M) : (HP 95 (4096 * s0 + s1) (s3) M ∧ True) := by
  exact ⟨Eq.mpr hp_95 (k_mid (K := 3) (Eq.mp hp_94 m0) (ex_o (K := 3) (j := 2) (a := s2) (Eq.mp hp_53 m1) ⟨by omega, by omega, by decide, by decide⟩) (fun _ _ => rfl)), trivial⟩
theorem rul_350 : Rul r_350 := by
  refine ⟨fun _ ρ M hm hB hF hG => ?_, fun gi gv hg => (by cases hg)⟩
  have H := cr_350 M (ρ 0) (ρ 1) (ρ 2) (ρ 3) (hB _ List.mem_cons_self) (hB _ (List.mem_cons_of_mem _ List.mem_cons_self)) (hB _ (List.mem_cons_of_mem _ (List.mem_cons_of_mem _ List.mem_cons_self))) (cvp 94 (x' := (4096 * (ρ 0) + (ρ 1))) (y' := ((ρ 3))) (by show 0 + (4096 * ρ 0 + (1 * ρ 1 + 0)) = _; omega) (by show 0 + (1 * ρ 3 + 0) = _; omega) (hm _ List.mem_cons_self)) (cvp 53 (x' := (4096 * (ρ 0) + (ρ 1))) (y' := (256 * (ρ 2) + 51)) (by show 0 + (4096 * ρ 0 + (1 * ρ 1 + 0)) = _; omega) (by show 51 + (256 * ρ 2 + 0) = _; omega) (hm _ (List.mem_cons_of_mem _ List.mem_cons_self))) hG
  obtain ⟨k0, -⟩ := H
  exact ⟨_, List.mem_cons_self, ρ, fun _ _ => rfl, (okM_c (pvp 95 (by show 0 + (4096 * ρ 0 + (1 * ρ 1 + 0)) = _; omega) (by show 0 + (1 * ρ 3 + 0) = _; omega) k0) okM_n), okB_n, okF_n⟩
-- fkid4_1
theorem cr_351 (M : pM) (s0 s1 s2 s3 : Int) (b0 : 0 ≤ s0 ∧ s0 ≤ 1900) (b1 : 0 ≤ s1 ∧ s1 ≤ 950) (b2 : 0 ≤ s2 ∧ s2 ≤ 1900) (m0 : HP 94 (4096 * s0 + s1) (s3) M) (m1 : HP 53 (4096 * s0 + s1) (256 * s2 + 73) M) (hG : gI M) : (HP 95 (4096 * s0 + s1) (s3) M ∧ True) := by
  exact ⟨Eq.mpr hp_95 (k_mid (K := 4) (Eq.mp hp_94 m0) (ex_o (K := 4) (j := 8) (a := s2) (Eq.mp hp_53 m1) ⟨by omega, by omega, by decide, by decide⟩) (fun _ _ => rfl)), trivial⟩
theorem rul_351 : Rul r_351 := by
  refine ⟨fun _ ρ M hm hB hF hG => ?_, fun gi gv hg => (by cases hg)⟩
  have H := cr_351 M (ρ 0) (ρ 1) (ρ 2) (ρ 3) (hB _ List.mem_cons_self) (hB _ (List.mem_cons_of_mem _ List.mem_cons_self)) (hB _ (List.mem_cons_of_mem _ (List.mem_cons_of_mem _ List.mem_cons_self))) (cvp 94 (x' := (4096 * (ρ 0) + (ρ 1))) (y' := ((ρ 3))) (by show 0 + (4096 * ρ 0 + (1 * ρ 1 + 0)) = _; omega) (by show 0 + (1 * ρ 3 + 0) = _; omega) (hm _ List.mem_cons_self)) (cvp 53 (x' := (4096 * (ρ 0) + (ρ 1))) (y' := (256 * (ρ 2) + 73)) (by show 0 + (4096 * ρ 0 + (1 * ρ 1 + 0)) = _; omega) (by show 73 + (256 * ρ 2 + 0) = _; omega) (hm _ (List.mem_cons_of_mem _ List.mem_cons_self))) hG
  obtain ⟨k0, -⟩ := H
  exact ⟨_, List.mem_cons_self, ρ, fun _ _ => rfl, (okM_c (pvp 95 (by show 0 + (4096 * ρ 0 + (1 * ρ 1 + 0)) = _; omega) (by show 0 + (1 * ρ 3 + 0) = _; omega) k0) okM_n), okB_n, okF_n⟩
-- fkid9_1
theorem cr_352 (M : pM) (s0 s1 s2 s3 : Int) (b0 : 0 ≤ s0 ∧ s0 ≤ 1900) (b1 : 0 ≤ s1 ∧ s1 ≤ 950) (b2 : 0 ≤ s2 ∧ s2 ≤ 1900) (m0 : HP 94 (4096 * s0 + s1) (s3) M) (m1 : HP 53 (4096 * s0 + s1) (256 * s2 + 150) M) (hG : gI M) : (HP 95 (4096 * s0 + s1) (s3) M ∧ True) := by
  exact ⟨Eq.mpr hp_95 (k_mid (K := 9) (Eq.mp hp_94 m0) (ex_o (K := 9) (j := 5) (a := s2) (Eq.mp hp_53 m1) ⟨by omega, by omega, by decide, by decide⟩) (fun _ _ => rfl)), trivial⟩
theorem rul_352 : Rul r_352 := by
  refine ⟨fun _ ρ M hm hB hF hG => ?_, fun gi gv hg => (by cases hg)⟩
  have H := cr_352 M (ρ 0) (ρ 1) (ρ 2) (ρ 3) (hB _ List.mem_cons_self) (hB _ (List.mem_cons_of_mem _ List.mem_cons_self)) (hB _ (List.mem_cons_of_mem _ (List.mem_cons_of_mem _ List.mem_cons_self))) (cvp 94 (x' := (4096 * (ρ 0) + (ρ 1))) (y' := ((ρ 3))) (by show 0 + (4096 * ρ 0 + (1 * ρ 1 + 0)) = _; omega) (by show 0 + (1 * ρ 3 + 0) = _; omega) (hm _ List.mem_cons_self)) (cvp 53 (x' := (4096 * (ρ 0) + (ρ 1))) (y' := (256 * (ρ 2) + 150)) (by show 0 + (4096 * ρ 0 + (1 * ρ 1 + 0)) = _; omega) (by show 150 + (256 * ρ 2 + 0) = _; omega) (hm _ (List.mem_cons_of_mem _ List.mem_cons_self))) hG
  obtain ⟨k0, -⟩ := H
  exact ⟨_, List.mem_cons_self, ρ, fun _ _ => rfl, (okM_c (pvp 95 (by show 0 + (4096 * ρ 0 + (1 * ρ 1 + 0)) = _; omega) (by show 0 + (1 * ρ 3 + 0) = _; omega) k0) okM_n), okB_n, okF_n⟩
-- fkid10_1
theorem cr_353 (M : pM) (s0 s1 s2 s3 : Int) (b0 : 0 ≤ s0 ∧ s0 ≤ 1900) (b1 : 0 ≤ s1 ∧ s1 ≤ 950) (b2 : 0 ≤ s2 ∧ s2 ≤ 1900) (m0 : HP 94 (4096 * s0 + s1) (s3) M) (m1 : HP 53 (4096 * s0 + s1) (256 * s2 + 169) M) (hG : gI M) : (HP 95 (4096 * s0 + s1) (s3) M ∧ True) := by
  exact ⟨Eq.mpr hp_95 (k_mid (K := 10) (Eq.mp hp_94 m0) (ex_o (K := 10) (j := 8) (a := s2) (Eq.mp hp_53 m1) ⟨by omega, by omega, by decide, by decide⟩) (fun _ _ => rfl)), trivial⟩
theorem rul_353 : Rul r_353 := by
  refine ⟨fun _ ρ M hm hB hF hG => ?_, fun gi gv hg => (by cases hg)⟩
  have H := cr_353 M (ρ 0) (ρ 1) (ρ 2) (ρ 3) (hB _ List.mem_cons_self) (hB _ (List.mem_cons_of_mem _ List.mem_cons_self)) (hB _ (List.mem_cons_of_mem _ (List.mem_cons_of_mem _ List.mem_cons_self))) (cvp 94 (x' := (4096 * (ρ 0) + (ρ 1))) (y' := ((ρ 3))) (by show 0 + (4096 * ρ 0 + (1 * ρ 1 + 0)) = _; omega) (by show 0 + (1 * ρ 3 + 0) = _; omega) (hm _ List.mem_cons_self)) (cvp 53 (x' := (4096 * (ρ 0) + (ρ 1))) (y' := (256 * (ρ 2) + 169)) (by show 0 + (4096 * ρ 0 + (1 * ρ 1 + 0)) = _; omega) (by show 169 + (256 * ρ 2 + 0) = _; omega) (hm _ (List.mem_cons_of_mem _ List.mem_cons_self))) hG
  obtain ⟨k0, -⟩ := H
  exact ⟨_, List.mem_cons_self, ρ, fun _ _ => rfl, (okM_c (pvp 95 (by show 0 + (4096 * ρ 0 + (1 * ρ 1 + 0)) = _; omega) (by show 0 + (1 * ρ 3 + 0) = _; omega) k0) okM_n), okB_n, okF_n⟩
-- cwf_1
theorem cr_354 (M : pM) (s0 s1 s2 s3 s4 s5 : Int) (b0 : 0 ≤ s0 ∧ s0 ≤ 1900) (b1 : 0 ≤ s1 ∧ s1 ≤ 950) (b2 : 0 ≤ s2 ∧ s2 ≤ 1900) (b3 : 0 ≤ s3 ∧ s3 ≤ 12) (b4 : 0 ≤ s4 ∧ s4 ≤ 20) (b5 : 0 ≤ s5 ∧ s5 ≤ 4) (m0 : HP 55 (4096 * s0 + s1) (s3 + 32 * s4 + 1024 * s5) M) (m1 : HP 53 (4096 * s0 + s1) (256 * s2 + 131) M) (hG : gI M) : (HP 57 (4096 * s0 + s1) (s3 + 32 * s4 + 1024 * s5) M ∧ True) := by
  exact ⟨Eq.mpr hp_57 (k_cwf (Eq.mp hp_55 m0) (ex_o (K := 8) (j := 2) (a := s2) (Eq.mp hp_53 m1) ⟨by omega, by omega, by decide, by decide⟩)), trivial⟩
theorem rul_354 : Rul r_354 := by
  refine ⟨fun _ ρ M hm hB hF hG => ?_, fun gi gv hg => (by cases hg)⟩
  have H := cr_354 M (ρ 0) (ρ 1) (ρ 2) (ρ 3) (ρ 4) (ρ 5) (hB _ List.mem_cons_self) (hB _ (List.mem_cons_of_mem _ List.mem_cons_self)) (hB _ (List.mem_cons_of_mem _ (List.mem_cons_of_mem _ List.mem_cons_self))) (hB _ (List.mem_cons_of_mem _ (List.mem_cons_of_mem _ (List.mem_cons_of_mem _ List.mem_cons_self)))) (hB _ (List.mem_cons_of_mem _ (List.mem_cons_of_mem _ (List.mem_cons_of_mem _ (List.mem_cons_of_mem _ List.mem_cons_self))))) (hB _ (List.mem_cons_of_mem _ (List.mem_cons_of_mem _ (List.mem_cons_of_mem _ (List.mem_cons_of_mem _ (List.mem_cons_of_mem _ List.mem_cons_self)))))) (cvp 55 (x' := (4096 * (ρ 0) + (ρ 1))) (y' := ((ρ 3) + 32 * (ρ 4) + 1024 * (ρ 5))) (by show 0 + (4096 * ρ 0 + (1 * ρ 1 + 0)) = _; omega) (by show 0 + (1 * ρ 3 + (32 * ρ 4 + (1024 * ρ 5 + 0))) = _; omega) (hm _ List.mem_cons_self)) (cvp 53 (x' := (4096 * (ρ 0) + (ρ 1))) (y' := (256 * (ρ 2) + 131)) (by show 0 + (4096 * ρ 0 + (1 * ρ 1 + 0)) = _; omega) (by show 131 + (256 * ρ 2 + 0) = _; omega) (hm _ (List.mem_cons_of_mem _ List.mem_cons_self))) hG
  obtain ⟨k0, -⟩ := H
  exact ⟨_, List.mem_cons_self, ρ, fun _ _ => rfl, (okM_c (pvp 57 (by show 0 + (4096 * ρ 0 + (1 * ρ 1 + 0)) = _; omega) (by show 0 + (1 * ρ 3 + (32 * ρ 4 + (1024 * ρ 5 + 0))) = _; omega) k0) okM_n), okB_n, okF_n⟩
-- semi_1
theorem cr_355 (M : pM) (s0 s1 s2 s3 s4 s5 s6 s7 s8 s9 : Int) (b0 : 0 ≤ s0 ∧ s0 ≤ 1900) (b1 : 0 ≤ s1 ∧ s1 ≤ 950) (b2 : 0 ≤ s2 ∧ s2 ≤ 1900) (b3 : 0 ≤ s3 ∧ s3 ≤ 1900) (b4 : 0 ≤ s4 ∧ s4 ≤ 12) (b5 : 0 ≤ s5 ∧ s5 ≤ 20) (b6 : 0 ≤ s6 ∧ s6 ≤ 4) (b7 : (-2147483648) ≤ s7 ∧ s7 ≤ 2147483647) (b8 : (-2147483648) ≤ s8 ∧ s8 ≤ 2147483647) (m0 : HP 89 (4096 * s0 + s1) (s2) M) (m1 : HP 47 (s2) (524347 : Int) M) (m2 : HP 46 (s2) (s3) M) (m3 : HP 57 (4096 * s0 + s1) (s4 + 32 * s5 + 1024 * s6) M) (m4 : HP 73 (4096 * s0 + s1) (s7) M) (m5 : HP 74 (4096 * s0 + s1) (s8) M) (m6 : HP 95 (4096 * s0 + s1) (s9) M) (hG : gI M) : (HP 55 (s1 + 4096 * s3 + 1) (s4 + 32 * s5 + 1024 * s6) M ∧ HP 71 (s1 + 4096 * s3 + 1) (s7) M ∧ HP 72 (s1 + 4096 * s3 + 1) (s8) M ∧ HP 94 (s1 + 4096 * s3 + 1) (s9) M ∧ 0 ≤ ((-1) * s1 + 949) ∧ True) := by
  obtain ⟨k1, k2⟩ := k_semi (P := s0) (l := s1) (x' := (s1 + 4096 * s3 + 1)) (Eq.mp hp_57 m3)  (Eq.mp hp_89 m0) (by omega) ⟨by omega, by omega, by omega⟩ (q47 m1).2 (q46 m2).2 (by omega) (by omega)
  exact ⟨Eq.mpr hp_55 k1, Eq.mpr hp_71 (k_semiM (P := s0) (l := s1) (Eq.mp hp_73 m4)  (Eq.mp hp_89 m0) (by omega) ⟨by omega, by omega, by omega⟩ (q47 m1).2 (q46 m2).2 (by omega) (by omega)), Eq.mpr hp_72 (k_semiM (P := s0) (l := s1) (Eq.mp hp_74 m5)  (Eq.mp hp_89 m0) (by omega) ⟨by omega, by omega, by omega⟩ (q47 m1).2 (q46 m2).2 (by omega) (by omega)), Eq.mpr hp_94 (k_semiM (P := s0) (l := s1) (Eq.mp hp_95 m6)  (Eq.mp hp_89 m0) (by omega) ⟨by omega, by omega, by omega⟩ (q47 m1).2 (q46 m2).2 (by omega) (by omega)), by omega, trivial⟩
theorem rul_355 : Rul r_355 := by
  refine ⟨fun _ ρ M hm hB hF hG => ?_, fun gi gv hg => (by cases hg)⟩
  have H := cr_355 M (ρ 0) (ρ 1) (ρ 2) (ρ 3) (ρ 4) (ρ 5) (ρ 6) (ρ 7) (ρ 8) (ρ 9) (hB _ List.mem_cons_self) (hB _ (List.mem_cons_of_mem _ List.mem_cons_self)) (hB _ (List.mem_cons_of_mem _ (List.mem_cons_of_mem _ List.mem_cons_self))) (hB _ (List.mem_cons_of_mem _ (List.mem_cons_of_mem _ (List.mem_cons_of_mem _ List.mem_cons_self)))) (hB _ (List.mem_cons_of_mem _ (List.mem_cons_of_mem _ (List.mem_cons_of_mem _ (List.mem_cons_of_mem _ List.mem_cons_self))))) (hB _ (List.mem_cons_of_mem _ (List.mem_cons_of_mem _ (List.mem_cons_of_mem _ (List.mem_cons_of_mem _ (List.mem_cons_of_mem _ List.mem_cons_self)))))) (hB _ (List.mem_cons_of_mem _ (List.mem_cons_of_mem _ (List.mem_cons_of_mem _ (List.mem_cons_of_mem _ (List.mem_cons_of_mem _ (List.mem_cons_of_mem _ List.mem_cons_self))))))) (hB _ (List.mem_cons_of_mem _ (List.mem_cons_of_mem _ (List.mem_cons_of_mem _ (List.mem_cons_of_mem _ (List.mem_cons_of_mem _ (List.mem_cons_of_mem _ (List.mem_cons_of_mem _ List.mem_cons_self)))))))) (hB _ (List.mem_cons_of_mem _ (List.mem_cons_of_mem _ (List.mem_cons_of_mem _ (List.mem_cons_of_mem _ (List.mem_cons_of_mem _ (List.mem_cons_of_mem _ (List.mem_cons_of_mem _ (List.mem_cons_of_mem _ List.mem_cons_self))))))))) (cvp 89 (x' := (4096 * (ρ 0) + (ρ 1))) (y' := ((ρ 2))) (by show 0 + (4096 * ρ 0 + (1 * ρ 1 + 0)) = _; omega) (by show 0 + (1 * ρ 2 + 0) = _; omega) (hm _ List.mem_cons_self)) (cvp 47 (x' := ((ρ 2))) (y' := (524347 : Int)) (by show 0 + (1 * ρ 2 + 0) = _; omega) (by show 524347 + 0 = _; omega) (hm _ (List.mem_cons_of_mem _ List.mem_cons_self))) (cvp 46 (x' := ((ρ 2))) (y' := ((ρ 3))) (by show 0 + (1 * ρ 2 + 0) = _; omega) (by show 0 + (1 * ρ 3 + 0) = _; omega) (hm _ (List.mem_cons_of_mem _ (List.mem_cons_of_mem _ List.mem_cons_self)))) (cvp 57 (x' := (4096 * (ρ 0) + (ρ 1))) (y' := ((ρ 4) + 32 * (ρ 5) + 1024 * (ρ 6))) (by show 0 + (4096 * ρ 0 + (1 * ρ 1 + 0)) = _; omega) (by show 0 + (1 * ρ 4 + (32 * ρ 5 + (1024 * ρ 6 + 0))) = _; omega) (hm _ (List.mem_cons_of_mem _ (List.mem_cons_of_mem _ (List.mem_cons_of_mem _ List.mem_cons_self))))) (cvp 73 (x' := (4096 * (ρ 0) + (ρ 1))) (y' := ((ρ 7))) (by show 0 + (4096 * ρ 0 + (1 * ρ 1 + 0)) = _; omega) (by show 0 + (1 * ρ 7 + 0) = _; omega) (hm _ (List.mem_cons_of_mem _ (List.mem_cons_of_mem _ (List.mem_cons_of_mem _ (List.mem_cons_of_mem _ List.mem_cons_self)))))) (cvp 74 (x' := (4096 * (ρ 0) + (ρ 1))) (y' := ((ρ 8))) (by show 0 + (4096 * ρ 0 + (1 * ρ 1 + 0)) = _; omega) (by show 0 + (1 * ρ 8 + 0) = _; omega) (hm _ (List.mem_cons_of_mem _ (List.mem_cons_of_mem _ (List.mem_cons_of_mem _ (List.mem_cons_of_mem _ (List.mem_cons_of_mem _ List.mem_cons_self))))))) (cvp 95 (x' := (4096 * (ρ 0) + (ρ 1))) (y' := ((ρ 9))) (by show 0 + (4096 * ρ 0 + (1 * ρ 1 + 0)) = _; omega) (by show 0 + (1 * ρ 9 + 0) = _; omega) (hm _ (List.mem_cons_of_mem _ (List.mem_cons_of_mem _ (List.mem_cons_of_mem _ (List.mem_cons_of_mem _ (List.mem_cons_of_mem _ (List.mem_cons_of_mem _ List.mem_cons_self)))))))) hG
  obtain ⟨k0, k1, k2, k3, f0, -⟩ := H
  exact ⟨_, List.mem_cons_self, ρ, fun _ _ => rfl, (okM_c (pvp 55 (by show 1 + (1 * ρ 1 + (4096 * ρ 3 + 0)) = _; omega) (by show 0 + (1 * ρ 4 + (32 * ρ 5 + (1024 * ρ 6 + 0))) = _; omega) k0) (okM_c (pvp 71 (by show 1 + (1 * ρ 1 + (4096 * ρ 3 + 0)) = _; omega) (by show 0 + (1 * ρ 7 + 0) = _; omega) k1) (okM_c (pvp 72 (by show 1 + (1 * ρ 1 + (4096 * ρ 3 + 0)) = _; omega) (by show 0 + (1 * ρ 8 + 0) = _; omega) k2) (okM_c (pvp 94 (by show 1 + (1 * ρ 1 + (4096 * ρ 3 + 0)) = _; omega) (by show 0 + (1 * ρ 9 + 0) = _; omega) k3) okM_n)))), okB_n, (okF_c (by show 0 ≤ 949 + ((-1) * ρ 1 + 0); omega) okF_n)⟩
-- cend_1
theorem cr_356 (M : pM) (s0 s1 s2 s3 s4 : Int) (b0 : 0 ≤ s0 ∧ s0 ≤ 1900) (b1 : 0 ≤ s1 ∧ s1 ≤ 950) (b2 : 0 ≤ s2 ∧ s2 ≤ 12) (b3 : 0 ≤ s3 ∧ s3 ≤ 20) (b4 : 0 ≤ s4 ∧ s4 ≤ 4) (m0 : HP 55 (4096 * s0 + s1) (s2 + 32 * s3 + 1024 * s4) M) (m1 : HP 47 (s0) (131071 : Int) M) (m2 : (0 ≤ (7 : Int) ∧ M 12 (7 : Int).toNat = (s2))) (m3 : (0 ≤ (10 : Int) ∧ M 12 (10 : Int).toNat = (s3))) (m4 : (0 ≤ (13 : Int) ∧ M 12 (13 : Int).toNat = (s4))) (hG : gI M) : (HP 59 (s1) (s2 + 32 * s3 + 1024 * s4) M ∧ True) := by
  have f0_ : M 12 7 = s2 := m2.2
  have f1_ : M 12 10 = s3 := m3.2
  have f2_ : M 12 13 = s4 := m4.2
  refine ⟨Eq.mpr hp_59 ⟨k_cend (P := s0) (l := s1) (Eq.mp hp_55 m0) ⟨by omega, by omega, by omega⟩ (q47 m1).2, ?_⟩, trivial⟩
  show _ = M (3 + 9 * 1) 7 + 32 * M (3 + 9 * 1) 10 + 1024 * M (3 + 9 * 1) 13 ∧ (0 ≤ M (3 + 9 * 1) 7 ∧ M (3 + 9 * 1) 7 ≤ 12) ∧ (0 ≤ M (3 + 9 * 1) 10 ∧ M (3 + 9 * 1) 10 ≤ 20) ∧ 0 ≤ M (3 + 9 * 1) 13 ∧ M (3 + 9 * 1) 13 ≤ 4
  rw [show M (3 + 9 * 1) 7 = s2 from f0_]
  rw [show M (3 + 9 * 1) 10 = s3 from f1_]
  rw [show M (3 + 9 * 1) 13 = s4 from f2_]
  omega
theorem rul_356 : Rul r_356 := by
  refine ⟨fun _ ρ M hm hB hF hG => ?_, fun gi gv hg => (by cases hg)⟩
  have H := cr_356 M (ρ 0) (ρ 1) (ρ 2) (ρ 3) (ρ 4) (hB _ List.mem_cons_self) (hB _ (List.mem_cons_of_mem _ List.mem_cons_self)) (hB _ (List.mem_cons_of_mem _ (List.mem_cons_of_mem _ List.mem_cons_self))) (hB _ (List.mem_cons_of_mem _ (List.mem_cons_of_mem _ (List.mem_cons_of_mem _ List.mem_cons_self)))) (hB _ (List.mem_cons_of_mem _ (List.mem_cons_of_mem _ (List.mem_cons_of_mem _ (List.mem_cons_of_mem _ List.mem_cons_self))))) (cvp 55 (x' := (4096 * (ρ 0) + (ρ 1))) (y' := ((ρ 2) + 32 * (ρ 3) + 1024 * (ρ 4))) (by show 0 + (4096 * ρ 0 + (1 * ρ 1 + 0)) = _; omega) (by show 0 + (1 * ρ 2 + (32 * ρ 3 + (1024 * ρ 4 + 0))) = _; omega) (hm _ List.mem_cons_self)) (cvp 47 (x' := ((ρ 0))) (y' := (131071 : Int)) (by show 0 + (1 * ρ 0 + 0) = _; omega) (by show 131071 + 0 = _; omega) (hm _ (List.mem_cons_of_mem _ List.mem_cons_self))) (cvm (c := 12) (by decide) (x' := (7 : Int)) (y' := ((ρ 2))) (by show 7 + 0 = _; omega) (by show 0 + (1 * ρ 2 + 0) = _; omega) (hm _ (List.mem_cons_of_mem _ (List.mem_cons_of_mem _ List.mem_cons_self)))) (cvm (c := 12) (by decide) (x' := (10 : Int)) (y' := ((ρ 3))) (by show 10 + 0 = _; omega) (by show 0 + (1 * ρ 3 + 0) = _; omega) (hm _ (List.mem_cons_of_mem _ (List.mem_cons_of_mem _ (List.mem_cons_of_mem _ List.mem_cons_self))))) (cvm (c := 12) (by decide) (x' := (13 : Int)) (y' := ((ρ 4))) (by show 13 + 0 = _; omega) (by show 0 + (1 * ρ 4 + 0) = _; omega) (hm _ (List.mem_cons_of_mem _ (List.mem_cons_of_mem _ (List.mem_cons_of_mem _ (List.mem_cons_of_mem _ List.mem_cons_self)))))) hG
  obtain ⟨k0, -⟩ := H
  exact ⟨_, List.mem_cons_self, ρ, fun _ _ => rfl, (okM_c (pvp 59 (by show 0 + (1 * ρ 1 + 0) = _; omega) (by show 0 + (1 * ρ 2 + (32 * ρ 3 + (1024 * ρ 4 + 0))) = _; omega) k0) okM_n), okB_n, okF_n⟩
-- wru
theorem cr_357 (M : pM) (s0 s1 s2 s3 : Int) (b0 : 0 ≤ s0 ∧ s0 ≤ 1900) (b1 : 0 ≤ s1 ∧ s1 ≤ 1900) (b2 : 0 ≤ s2 ∧ s2 ≤ 1900) (b3 : 262143 ≤ s3 ∧ s3 ≤ 262168) (m0 : HP 47 (s0) (s3) M) (m1 : HP 45 (s0) (s1) M) (m2 : HP 46 (s0) (s2) M) (hG : gI M) : (HP 44 (s1 + 2048) (s2) M ∧ 0 ≤ ((-1) * s1 + s2 - 1) ∧ 0 ≤ (s1 + (-1) * s2 + 8) ∧ True) := by
  have hb := hby_M hG
  have h1 := (Eq.mp hp_45 m1).2
  have h2 := (Eq.mp hp_46 m2).2
  have h3 := (Eq.mp hp_47 m0).2
  obtain ⟨w1, w2, w3, w4, w5, w6⟩ := tk_wd hb (p := s0.toNat) (by omega) (by omega)
  exact ⟨Eq.mpr hp_44 ⟨1, s1.toNat, by decide, by omega, by omega, by rw [show s1.toNat = tS M s0.toNat by omega, w3]; exact h2⟩, by omega, by omega, trivial⟩
theorem rul_357 : Rul r_357 := by
  refine ⟨fun _ ρ M hm hB hF hG => ?_, fun gi gv hg => (by cases hg)⟩
  have H := cr_357 M (ρ 0) (ρ 1) (ρ 2) (ρ 3) (hB _ List.mem_cons_self) (hB _ (List.mem_cons_of_mem _ List.mem_cons_self)) (hB _ (List.mem_cons_of_mem _ (List.mem_cons_of_mem _ List.mem_cons_self))) (hB _ (List.mem_cons_of_mem _ (List.mem_cons_of_mem _ (List.mem_cons_of_mem _ List.mem_cons_self)))) (cvp 47 (x' := ((ρ 0))) (y' := ((ρ 3))) (by show 0 + (1 * ρ 0 + 0) = _; omega) (by show 0 + (1 * ρ 3 + 0) = _; omega) (hm _ List.mem_cons_self)) (cvp 45 (x' := ((ρ 0))) (y' := ((ρ 1))) (by show 0 + (1 * ρ 0 + 0) = _; omega) (by show 0 + (1 * ρ 1 + 0) = _; omega) (hm _ (List.mem_cons_of_mem _ List.mem_cons_self))) (cvp 46 (x' := ((ρ 0))) (y' := ((ρ 2))) (by show 0 + (1 * ρ 0 + 0) = _; omega) (by show 0 + (1 * ρ 2 + 0) = _; omega) (hm _ (List.mem_cons_of_mem _ (List.mem_cons_of_mem _ List.mem_cons_self)))) hG
  obtain ⟨k0, f0, f1, -⟩ := H
  exact ⟨_, List.mem_cons_self, ρ, fun _ _ => rfl, (okM_c (pvp 44 (by show 2048 + (1 * ρ 1 + 0) = _; omega) (by show 0 + (1 * ρ 2 + 0) = _; omega) k0) okM_n), okB_n, (okF_c (by show 0 ≤ (-1) + ((-1) * ρ 1 + (1 * ρ 2 + 0)); omega) (okF_c (by show 0 ≤ 8 + (1 * ρ 1 + ((-1) * ρ 2 + 0)); omega) okF_n))⟩
-- ltc
theorem cr_358 (M : pM) (s0 s1 s2 s3 : Int) (b0 : 0 ≤ s0 ∧ s0 ≤ 1900) (b1 : 0 ≤ s1 ∧ s1 ≤ 1900) (b2 : 0 ≤ s2 ∧ s2 ≤ 1900) (b3 : 0 ≤ s3 ∧ s3 ≤ 255) (m0 : HP 44 (s0 + 2048) (s1) M) (m1 : (0 ≤ (s2) ∧ M 1 (s2).toNat = (s3))) (f0 : 0 ≤ ((-1) * s0 + s2)) (f1 : 0 ≤ (s1 + (-1) * s2 - 1)) (hG : gI M) : (0 ≤ (s3 - 97) ∧ 0 ≤ ((-1) * s3 + 122) ∧ True) := by
  have hr := ru_o (P := 1) (p := s0.toNat) m0 ⟨by omega, by decide, by omega⟩
  have hc := isC_1 (ru_in (M := M) (P := 1) (p := s0.toNat) (i := s2.toNat) (by omega) (by omega))
  rw [m1.2] at hc
  exact ⟨by omega, by omega, trivial⟩
theorem rul_358 : Rul r_358 := by
  refine ⟨fun _ ρ M hm hB hF hG => ?_, fun gi gv hg => (by cases hg)⟩
  have H := cr_358 M (ρ 0) (ρ 1) (ρ 2) (ρ 3) (hB _ List.mem_cons_self) (hB _ (List.mem_cons_of_mem _ List.mem_cons_self)) (hB _ (List.mem_cons_of_mem _ (List.mem_cons_of_mem _ List.mem_cons_self))) (hB _ (List.mem_cons_of_mem _ (List.mem_cons_of_mem _ (List.mem_cons_of_mem _ List.mem_cons_self)))) (cvp 44 (x' := ((ρ 0) + 2048)) (y' := ((ρ 1))) (by show 2048 + (1 * ρ 0 + 0) = _; omega) (by show 0 + (1 * ρ 1 + 0) = _; omega) (hm _ List.mem_cons_self)) (cvm (c := 1) (by decide) (x' := ((ρ 2))) (y' := ((ρ 3))) (by show 0 + (1 * ρ 2 + 0) = _; omega) (by show 0 + (1 * ρ 3 + 0) = _; omega) (hm _ (List.mem_cons_of_mem _ List.mem_cons_self))) (by have h := hF _ List.mem_cons_self; have h : 0 ≤ 0 + ((-1) * ρ 0 + (1 * ρ 2 + 0)) := h; omega) (by have h := hF _ (List.mem_cons_of_mem _ List.mem_cons_self); have h : 0 ≤ (-1) + (1 * ρ 1 + ((-1) * ρ 2 + 0)) := h; omega) hG
  obtain ⟨f0, f1, -⟩ := H
  exact ⟨_, List.mem_cons_self, ρ, fun _ _ => rfl, okM_n, okB_n, (okF_c (by show 0 ≤ (-97) + (1 * ρ 3 + 0); omega) (okF_c (by show 0 ≤ 122 + ((-1) * ρ 3 + 0); omega) okF_n))⟩
-- pk0
theorem cr_359 (M : pM) (s0 : Int) (b0 : 0 ≤ s0 ∧ s0 ≤ 1900) (hG : gI M) : (HP 90 (2049 * s0) (0 : Int) M ∧ True) := by
  exact ⟨Eq.mpr hp_90 ⟨s0.toNat, 0, by omega, by omega, rfl, fun i hi => by omega⟩, trivial⟩
theorem rul_359 : Rul r_359 := by
  refine ⟨fun _ ρ M hm hB hF hG => ?_, fun gi gv hg => (by cases hg)⟩
  have H := cr_359 M (ρ 0) (hB _ List.mem_cons_self) hG
  obtain ⟨k0, -⟩ := H
  exact ⟨_, List.mem_cons_self, ρ, fun _ _ => rfl, (okM_c (pvp 90 (by show 0 + (2049 * ρ 0 + 0) = _; omega) (by show 0 + 0 = _; omega) k0) okM_n), okB_n, okF_n⟩
-- pkn
theorem cr_360 (M : pM) (s0 s1 s2 s3 s4 s5 : Int) (b0 : 0 ≤ s0 ∧ s0 ≤ 1900) (b1 : 0 ≤ s1 ∧ s1 ≤ 1900) (b2 : 0 ≤ s2 ∧ s2 ≤ 1099511627775) (b3 : 97 ≤ s3 ∧ s3 ≤ 122) (b4 : (-9223372036854775808) ≤ s4 ∧ s4 ≤ 9223372036854775807) (b5 : (-9223372036854775808) ≤ s5 ∧ s5 ≤ 9223372036854775807) (m0 : HP 90 (2048 * s0 + s1) (s2) M) (m1 : (0 ≤ (s1) ∧ M 1 (s1).toNat = (s3))) (m2 : HP 115 (s2 + 590295810358705651712) (s4) M) (m3 : HP 113 (s3 + 18446744073709551616 * s4 - 96) (s5) M) (f0 : 0 ≤ ((-1) * s0 + s1)) (f1 : 0 ≤ (s0 + (-1) * s1 + 7)) (hG : gI M) : (HP 90 (2048 * s0 + s1 + 1) (s5) M ∧ 0 ≤ (s5) ∧ 0 ≤ ((-1) * s5 + 1099511627775) ∧ True) := by
  obtain ⟨p1, p2, p3⟩ := pk_o (s := s0.toNat) (e := s1.toNat) (Eq.mp hp_90 m0) ⟨by omega, by omega, by omega⟩
  have hr := rd1 m1 (by omega)
  have p4 : ∀ i, i < s1.toNat - s0.toNat + 1 → 97 ≤ tm M 1 (s0.toNat + i) ∧ tm M 1 (s0.toNat + i) ≤ 122 := by
    intro i hi
    by_cases e : i = s1.toNat - s0.toNat
    · rw [show s0.toNat + i = s1.toNat by omega, hr]; omega
    · exact p3 i (by omega)
  have hb := pk_bd (m := 32) (a := 96) (hi := 26) (by decide) (by decide) (N := tm M) (s := s0.toNat) (k := s1.toNat - s0.toNat) (fun i hi => by have := p3 i hi; omega)
  have e1 := n_lmul (a := 32) (b := s2) m2 (by omega) (by unfold r64; omega)
  have e2 := n_ladd (a := s4) (b := s3 - 96) m3 (by omega) (by unfold r64; omega)
  have hp : (32 : Int) ^ (s1.toNat - s0.toNat) ≤ 34359738368 := by
    have : s1.toNat - s0.toNat ≤ 7 := by omega
    have h8 : ∀ k, k ≤ 7 → (32 : Int) ^ k ≤ 34359738368 := by decide
    exact h8 _ this
  rw [l64_mul (by omega) (by omega)] at e1
  rw [e1, l64_add (by omega) (by omega)] at e2
  refine ⟨Eq.mpr hp_90 ⟨s0.toNat, s1.toNat - s0.toNat + 1, by omega, by omega, ?_, p4⟩, by omega, by omega, trivial⟩
  show s5 = 32 * pkd 32 96 (tm M) s0.toNat (s1.toNat - s0.toNat) + (tm M 1 (s0.toNat + (s1.toNat - s0.toNat)) - 96)
  rw [← p2, show s0.toNat + (s1.toNat - s0.toNat) = s1.toNat by omega, hr]
  omega
theorem rul_360 : Rul r_360 := by
  refine ⟨fun _ ρ M hm hB hF hG => ?_, fun gi gv hg => (by cases hg)⟩
  have H := cr_360 M (ρ 0) (ρ 1) (ρ 2) (ρ 3) (ρ 4) (ρ 5) (hB _ List.mem_cons_self) (hB _ (List.mem_cons_of_mem _ List.mem_cons_self)) (hB _ (List.mem_cons_of_mem _ (List.mem_cons_of_mem _ List.mem_cons_self))) (hB _ (List.mem_cons_of_mem _ (List.mem_cons_of_mem _ (List.mem_cons_of_mem _ List.mem_cons_self)))) (hB _ (List.mem_cons_of_mem _ (List.mem_cons_of_mem _ (List.mem_cons_of_mem _ (List.mem_cons_of_mem _ List.mem_cons_self))))) (hB _ (List.mem_cons_of_mem _ (List.mem_cons_of_mem _ (List.mem_cons_of_mem _ (List.mem_cons_of_mem _ (List.mem_cons_of_mem _ List.mem_cons_self)))))) (cvp 90 (x' := (2048 * (ρ 0) + (ρ 1))) (y' := ((ρ 2))) (by show 0 + (2048 * ρ 0 + (1 * ρ 1 + 0)) = _; omega) (by show 0 + (1 * ρ 2 + 0) = _; omega) (hm _ List.mem_cons_self)) (cvm (c := 1) (by decide) (x' := ((ρ 1))) (y' := ((ρ 3))) (by show 0 + (1 * ρ 1 + 0) = _; omega) (by show 0 + (1 * ρ 3 + 0) = _; omega) (hm _ (List.mem_cons_of_mem _ List.mem_cons_self))) (cvp 115 (x' := ((ρ 2) + 590295810358705651712)) (y' := ((ρ 4))) (by show 590295810358705651712 + (1 * ρ 2 + 0) = _; omega) (by show 0 + (1 * ρ 4 + 0) = _; omega) (hm _ (List.mem_cons_of_mem _ (List.mem_cons_of_mem _ List.mem_cons_self)))) (cvp 113 (x' := ((ρ 3) + 18446744073709551616 * (ρ 4) - 96)) (y' := ((ρ 5))) (by show (-96) + (1 * ρ 3 + (18446744073709551616 * ρ 4 + 0)) = _; omega) (by show 0 + (1 * ρ 5 + 0) = _; omega) (hm _ (List.mem_cons_of_mem _ (List.mem_cons_of_mem _ (List.mem_cons_of_mem _ List.mem_cons_self))))) (by have h := hF _ List.mem_cons_self; have h : 0 ≤ 0 + ((-1) * ρ 0 + (1 * ρ 1 + 0)) := h; omega) (by have h := hF _ (List.mem_cons_of_mem _ List.mem_cons_self); have h : 0 ≤ 7 + (1 * ρ 0 + ((-1) * ρ 1 + 0)) := h; omega) hG
  obtain ⟨k0, f0, f1, -⟩ := H
  exact ⟨_, List.mem_cons_self, ρ, fun _ _ => rfl, (okM_c (pvp 90 (by show 1 + (2048 * ρ 0 + (1 * ρ 1 + 0)) = _; omega) (by show 0 + (1 * ρ 5 + 0) = _; omega) k0) okM_n), okB_n, (okF_c (by show 0 ≤ 0 + (1 * ρ 5 + 0); omega) (okF_c (by show 0 ≤ 1099511627775 + ((-1) * ρ 5 + 0); omega) okF_n))⟩
-- pkx
theorem cr_361 (M : pM) (s0 s1 s2 : Int) (b0 : 0 ≤ s0 ∧ s0 ≤ 3893100) (b1 : 0 ≤ s1 ∧ s1 ≤ 3893100) (b2 : 0 ≤ s2 ∧ s2 ≤ 1099511627775) (m0 : HP 90 (s0) (s2) M) (f0 : 0 ≤ ((-1) * s0 + s1)) (f1 : 0 ≤ (s0 + (-1) * s1)) (hG : gI M) : (HP 90 (s1) (s2) M ∧ True) := by
  have e : s0 = s1 := by omega
  subst e
  exact ⟨m0, trivial⟩
theorem rul_361 : Rul r_361 := by
  refine ⟨fun _ ρ M hm hB hF hG => ?_, fun gi gv hg => (by cases hg)⟩
  have H := cr_361 M (ρ 0) (ρ 1) (ρ 2) (hB _ List.mem_cons_self) (hB _ (List.mem_cons_of_mem _ List.mem_cons_self)) (hB _ (List.mem_cons_of_mem _ (List.mem_cons_of_mem _ List.mem_cons_self))) (cvp 90 (x' := ((ρ 0))) (y' := ((ρ 2))) (by show 0 + (1 * ρ 0 + 0) = _; omega) (by show 0 + (1 * ρ 2 + 0) = _; omega) (hm _ List.mem_cons_self)) (by have h := hF _ List.mem_cons_self; have h : 0 ≤ 0 + ((-1) * ρ 0 + (1 * ρ 1 + 0)) := h; omega) (by have h := hF _ (List.mem_cons_of_mem _ List.mem_cons_self); have h : 0 ≤ 0 + (1 * ρ 0 + ((-1) * ρ 1 + 0)) := h; omega) hG
  obtain ⟨k0, -⟩ := H
  exact ⟨_, List.mem_cons_self, ρ, fun _ _ => rfl, (okM_c (pvp 90 (by show 0 + (1 * ρ 1 + 0) = _; omega) (by show 0 + (1 * ρ 2 + 0) = _; omega) k0) okM_n), okB_n, okF_n⟩
-- nn0_0
theorem cr_362 (M : pM) (s0 : Int) (b0 : 0 ≤ s0 ∧ s0 ≤ 1099511627775) (hG : gI M) : (HP 92 (0 : Int) (s0) M ∧ True) := by
  exact ⟨Eq.mpr hp_92 (fun i h1 h2 => by omega), trivial⟩
theorem rul_362 : Rul r_362 := by
  refine ⟨fun _ ρ M hm hB hF hG => ?_, fun gi gv hg => (by cases hg)⟩
  have H := cr_362 M (ρ 0) (hB _ List.mem_cons_self) hG
  obtain ⟨k0, -⟩ := H
  exact ⟨_, List.mem_cons_self, ρ, fun _ _ => rfl, (okM_c (pvp 92 (by show 0 + 0 = _; omega) (by show 0 + (1 * ρ 0 + 0) = _; omega) k0) okM_n), okB_n, okF_n⟩
-- nnn0_0
theorem cr_363 (M : pM) (s0 s1 s2 : Int) (b0 : 0 ≤ s0 ∧ s0 ≤ 1099511627775) (b1 : 0 ≤ s1 ∧ s1 ≤ 3) (m0 : HP 92 (s1) (s0) M) (m1 : (0 ≤ (s1) ∧ M 10 (s1).toNat = (s2))) (f0 : 0 ≤ (s0 + (-1) * s2 - 1)) (hG : gI M) : (HP 92 (s1 + 1) (s0) M ∧ True) := by
  exact ⟨Eq.mpr hp_92 (fun i h1 h2 => if e : i = s1.toNat then (by rw [e, m1.2]; omega) else Eq.mp hp_92 m0 i h1 (by omega)), trivial⟩
theorem rul_363 : Rul r_363 := by
  refine ⟨fun _ ρ M hm hB hF hG => ?_, fun gi gv hg => (by cases hg)⟩
  have H := cr_363 M (ρ 0) (ρ 1) (ρ 2) (hB _ List.mem_cons_self) (hB _ (List.mem_cons_of_mem _ List.mem_cons_self)) (cvp 92 (x' := ((ρ 1))) (y' := ((ρ 0))) (by show 0 + (1 * ρ 1 + 0) = _; omega) (by show 0 + (1 * ρ 0 + 0) = _; omega) (hm _ List.mem_cons_self)) (cvm (c := 10) (by decide) (x' := ((ρ 1))) (y' := ((ρ 2))) (by show 0 + (1 * ρ 1 + 0) = _; omega) (by show 0 + (1 * ρ 2 + 0) = _; omega) (hm _ (List.mem_cons_of_mem _ List.mem_cons_self))) (by have h := hF _ List.mem_cons_self; have h : 0 ≤ (-1) + (1 * ρ 0 + ((-1) * ρ 2 + 0)) := h; omega) hG
  obtain ⟨k0, -⟩ := H
  exact ⟨_, List.mem_cons_self, ρ, fun _ _ => rfl, (okM_c (pvp 92 (by show 1 + (1 * ρ 1 + 0) = _; omega) (by show 0 + (1 * ρ 0 + 0) = _; omega) k0) okM_n), okB_n, okF_n⟩
-- nnn1_0
theorem cr_364 (M : pM) (s0 s1 s2 : Int) (b0 : 0 ≤ s0 ∧ s0 ≤ 1099511627775) (b1 : 0 ≤ s1 ∧ s1 ≤ 3) (m0 : HP 92 (s1) (s0) M) (m1 : (0 ≤ (s1) ∧ M 10 (s1).toNat = (s2))) (f0 : 0 ≤ ((-1) * s0 + s2 - 1)) (hG : gI M) : (HP 92 (s1 + 1) (s0) M ∧ True) := by
  exact ⟨Eq.mpr hp_92 (fun i h1 h2 => if e : i = s1.toNat then (by rw [e, m1.2]; omega) else Eq.mp hp_92 m0 i h1 (by omega)), trivial⟩
theorem rul_364 : Rul r_364 := by
  refine ⟨fun _ ρ M hm hB hF hG => ?_, fun gi gv hg => (by cases hg)⟩
  have H := cr_364 M (ρ 0) (ρ 1) (ρ 2) (hB _ List.mem_cons_self) (hB _ (List.mem_cons_of_mem _ List.mem_cons_self)) (cvp 92 (x' := ((ρ 1))) (y' := ((ρ 0))) (by show 0 + (1 * ρ 1 + 0) = _; omega) (by show 0 + (1 * ρ 0 + 0) = _; omega) (hm _ List.mem_cons_self)) (cvm (c := 10) (by decide) (x' := ((ρ 1))) (y' := ((ρ 2))) (by show 0 + (1 * ρ 1 + 0) = _; omega) (by show 0 + (1 * ρ 2 + 0) = _; omega) (hm _ (List.mem_cons_of_mem _ List.mem_cons_self))) (by have h := hF _ List.mem_cons_self; have h : 0 ≤ (-1) + ((-1) * ρ 0 + (1 * ρ 2 + 0)) := h; omega) hG
  obtain ⟨k0, -⟩ := H
  exact ⟨_, List.mem_cons_self, ρ, fun _ _ => rfl, (okM_c (pvp 92 (by show 1 + (1 * ρ 1 + 0) = _; omega) (by show 0 + (1 * ρ 0 + 0) = _; omega) k0) okM_n), okB_n, okF_n⟩
-- nnx_0
theorem cr_365 (M : pM) (s0 s1 s2 : Int) (b0 : 0 ≤ s0 ∧ s0 ≤ 1099511627775) (b1 : 0 ≤ s1 ∧ s1 ≤ 4) (b2 : 0 ≤ s2 ∧ s2 ≤ 4) (m0 : HP 92 (s1) (s0) M) (f0 : 0 ≤ ((-1) * s1 + s2)) (f1 : 0 ≤ (s1 + (-1) * s2)) (hG : gI M) : (HP 92 (s2) (s0) M ∧ True) := by
  have e : s1 = s2 := by omega
  subst e
  exact ⟨m0, trivial⟩
theorem rul_365 : Rul r_365 := by
  refine ⟨fun _ ρ M hm hB hF hG => ?_, fun gi gv hg => (by cases hg)⟩
  have H := cr_365 M (ρ 0) (ρ 1) (ρ 2) (hB _ List.mem_cons_self) (hB _ (List.mem_cons_of_mem _ List.mem_cons_self)) (hB _ (List.mem_cons_of_mem _ (List.mem_cons_of_mem _ List.mem_cons_self))) (cvp 92 (x' := ((ρ 1))) (y' := ((ρ 0))) (by show 0 + (1 * ρ 1 + 0) = _; omega) (by show 0 + (1 * ρ 0 + 0) = _; omega) (hm _ List.mem_cons_self)) (by have h := hF _ List.mem_cons_self; have h : 0 ≤ 0 + ((-1) * ρ 1 + (1 * ρ 2 + 0)) := h; omega) (by have h := hF _ (List.mem_cons_of_mem _ List.mem_cons_self); have h : 0 ≤ 0 + (1 * ρ 1 + ((-1) * ρ 2 + 0)) := h; omega) hG
  obtain ⟨k0, -⟩ := H
  exact ⟨_, List.mem_cons_self, ρ, fun _ _ => rfl, (okM_c (pvp 92 (by show 0 + (1 * ρ 2 + 0) = _; omega) (by show 0 + (1 * ρ 0 + 0) = _; omega) k0) okM_n), okB_n, okF_n⟩
-- told10_0
theorem cr_366 (M : pM) (s0 s1 s2 s3 s4 s5 s6 s7 s8 s9 s10 : Int) (b0 : 0 ≤ s0 ∧ s0 ≤ 1900) (b1 : 0 ≤ s1 ∧ s1 ≤ 950) (b2 : 0 ≤ s2 ∧ s2 ≤ 1900) (b3 : 0 ≤ s3 ∧ s3 ≤ 1900) (b4 : 0 ≤ s4 ∧ s4 ≤ 1900) (b5 : 0 ≤ s5 ∧ s5 ≤ 1099511627775) (b6 : 0 ≤ s6 ∧ s6 ≤ 12) (b7 : 0 ≤ s7 ∧ s7 ≤ 20) (b8 : 0 ≤ s8 ∧ s8 ≤ 4) (b9 : 0 ≤ s9 ∧ s9 ≤ 3) (m0 : HP 53 (4096 * s0 + s1) (256 * s2 + 161) M) (m1 : HP 47 (s2) (262143 : Int) M) (m2 : HP 45 (s2) (s3) M) (m3 : HP 46 (s2) (s4) M) (m4 : HP 90 (2048 * s3 + s4) (s5) M) (m5 : HP 54 (4096 * s0 + s1) (s6 + 32 * s7 + 1024 * s8) M) (m6 : (0 ≤ (s9) ∧ M 10 (s9).toNat = (s10))) (f0 : 0 ≤ (s8 + (-1) * s9 - 1)) (f1 : 0 ≤ (s5 + (-1) * s10)) (f2 : 0 ≤ ((-1) * s5 + s10)) (hG : gI M) : (HP 66 (s3) (3 : Int) M ∧ True) := by
  have hby := hby_tm hG
  obtain ⟨S, hS, hw, ha⟩ := Eq.mp hp_54 m5
  obtain ⟨c1, c2, c3⟩ := qW_o (w := s6) (r := s7) (g := s8) hw (by omega) (by omega) (by omega) (by omega)
  obtain ⟨S2, hS2, hE2⟩ := ex_o (K := 10) (j := 0) (a := s2) (Eq.mp hp_53 m0) ⟨by omega, by omega, by decide, by decide⟩
  have e2 := qat_u hS hS2
  subst e2
  have ha2 : s2 = (qps (tm M) S2.1 1 : Int) := hE2.2.2.2.2
  have hz := (q47 m1).2
  rw [show s2.toNat = qps (tm M) S2.1 1 by omega] at hz
  have g1 := (q45 m2).2
  have g2 := (q46 m3).2
  rw [show s2.toNat = qps (tm M) S2.1 1 by omega] at g1 g2
  obtain ⟨p1, p2, p3⟩ := pk_o (s := s3.toNat) (e := s4.toNat) (Eq.mp hp_90 m4) ⟨by omega, by omega, by omega⟩
  have hv : s5 = qpk 32 96 (tm M) (qps (tm M) S2.1 1) := by unfold qpk; rw [show tS (tm M) (qps (tm M) S2.1 1) = s3.toNat by omega, show tE (tm M) (qps (tm M) S2.1 1) = s4.toNat by omega]; exact p2
  have hnm := ha.2.2.2.2.2.2.2.1
  have hi : M 10 s9.toNat = s10 := m6.2
  have hn2 := hnm s9.toNat (by omega) (by omega)
  have hn1 : M 10 s9.toNat = _ := hn2.1
  have hq : qtn (tm M) S2.1 S2.2 = true := qtn_i (i := s9.toNat) (by omega) (by omega) (nm_eq (m := 32) (a := 96) (hi := 26) (by decide) (by decide) hby (fun c _ _ => by omega) hn2.2 (by omega) (by rw [← hn1, ← hv]; omega))
  refine ⟨r_fl (K := 10) (j := 0) m0 m1 m2 ⟨by omega, by omega, by decide⟩ (fun s hs hE e => ?_), trivial⟩
  have e3 := qat_u hS hs
  subst e3
  show (if tK (tm M) (qps (tm M) s.1 1) ≤ 255 then some 1 else if tK (tm M) (qps (tm M) s.1 1) = 262143 then (if qtn (tm M) s.1 s.2 = true then some 3 else none) else some 2) = some 3
  rw [e, if_neg (by decide), if_pos rfl, if_pos hq]
theorem rul_366 : Rul r_366 := by
  refine ⟨fun _ ρ M hm hB hF hG => ?_, fun gi gv hg => (by cases hg)⟩
  have H := cr_366 M (ρ 0) (ρ 1) (ρ 2) (ρ 3) (ρ 4) (ρ 5) (ρ 6) (ρ 7) (ρ 8) (ρ 9) (ρ 10) (hB _ List.mem_cons_self) (hB _ (List.mem_cons_of_mem _ List.mem_cons_self)) (hB _ (List.mem_cons_of_mem _ (List.mem_cons_of_mem _ List.mem_cons_self))) (hB _ (List.mem_cons_of_mem _ (List.mem_cons_of_mem _ (List.mem_cons_of_mem _ List.mem_cons_self)))) (hB _ (List.mem_cons_of_mem _ (List.mem_cons_of_mem _ (List.mem_cons_of_mem _ (List.mem_cons_of_mem _ List.mem_cons_self))))) (hB _ (List.mem_cons_of_mem _ (List.mem_cons_of_mem _ (List.mem_cons_of_mem _ (List.mem_cons_of_mem _ (List.mem_cons_of_mem _ List.mem_cons_self)))))) (hB _ (List.mem_cons_of_mem _ (List.mem_cons_of_mem _ (List.mem_cons_of_mem _ (List.mem_cons_of_mem _ (List.mem_cons_of_mem _ (List.mem_cons_of_mem _ List.mem_cons_self))))))) (hB _ (List.mem_cons_of_mem _ (List.mem_cons_of_mem _ (List.mem_cons_of_mem _ (List.mem_cons_of_mem _ (List.mem_cons_of_mem _ (List.mem_cons_of_mem _ (List.mem_cons_of_mem _ List.mem_cons_self)))))))) (hB _ (List.mem_cons_of_mem _ (List.mem_cons_of_mem _ (List.mem_cons_of_mem _ (List.mem_cons_of_mem _ (List.mem_cons_of_mem _ (List.mem_cons_of_mem _ (List.mem_cons_of_mem _ (List.mem_cons_of_mem _ List.mem_cons_self))))))))) (hB _ (List.mem_cons_of_mem _ (List.mem_cons_of_mem _ (List.mem_cons_of_mem _ (List.mem_cons_of_mem _ (List.mem_cons_of_mem _ (List.mem_cons_of_mem _ (List.mem_cons_of_mem _ (List.mem_cons_of_mem _ (List.mem_cons_of_mem _ List.mem_cons_self)))))))))) (cvp 53 (x' := (4096 * (ρ 0) + (ρ 1))) (y' := (256 * (ρ 2) + 161)) (by show 0 + (4096 * ρ 0 + (1 * ρ 1 + 0)) = _; omega) (by show 161 + (256 * ρ 2 + 0) = _; omega) (hm _ List.mem_cons_self)) (cvp 47 (x' := ((ρ 2))) (y' := (262143 : Int)) (by show 0 + (1 * ρ 2 + 0) = _; omega) (by show 262143 + 0 = _; omega) (hm _ (List.mem_cons_of_mem _ List.mem_cons_self))) (cvp 45 (x' := ((ρ 2))) (y' := ((ρ 3))) (by show 0 + (1 * ρ 2 + 0) = _; omega) (by show 0 + (1 * ρ 3 + 0) = _; omega) (hm _ (List.mem_cons_of_mem _ (List.mem_cons_of_mem _ List.mem_cons_self)))) (cvp 46 (x' := ((ρ 2))) (y' := ((ρ 4))) (by show 0 + (1 * ρ 2 + 0) = _; omega) (by show 0 + (1 * ρ 4 + 0) = _; omega) (hm _ (List.mem_cons_of_mem _ (List.mem_cons_of_mem _ (List.mem_cons_of_mem _ List.mem_cons_self))))) (cvp 90 (x' := (2048 * (ρ 3) + (ρ 4))) (y' := ((ρ 5))) (by show 0 + (2048 * ρ 3 + (1 * ρ 4 + 0)) = _; omega) (by show 0 + (1 * ρ 5 + 0) = _; omega) (hm _ (List.mem_cons_of_mem _ (List.mem_cons_of_mem _ (List.mem_cons_of_mem _ (List.mem_cons_of_mem _ List.mem_cons_self)))))) (cvp 54 (x' := (4096 * (ρ 0) + (ρ 1))) (y' := ((ρ 6) + 32 * (ρ 7) + 1024 * (ρ 8))) (by show 0 + (4096 * ρ 0 + (1 * ρ 1 + 0)) = _; omega) (by show 0 + (1 * ρ 6 + (32 * ρ 7 + (1024 * ρ 8 + 0))) = _; omega) (hm _ (List.mem_cons_of_mem _ (List.mem_cons_of_mem _ (List.mem_cons_of_mem _ (List.mem_cons_of_mem _ (List.mem_cons_of_mem _ List.mem_cons_self))))))) (cvm (c := 10) (by decide) (x' := ((ρ 9))) (y' := ((ρ 10))) (by show 0 + (1 * ρ 9 + 0) = _; omega) (by show 0 + (1 * ρ 10 + 0) = _; omega) (hm _ (List.mem_cons_of_mem _ (List.mem_cons_of_mem _ (List.mem_cons_of_mem _ (List.mem_cons_of_mem _ (List.mem_cons_of_mem _ (List.mem_cons_of_mem _ List.mem_cons_self)))))))) (by have h := hF _ List.mem_cons_self; have h : 0 ≤ (-1) + (1 * ρ 8 + ((-1) * ρ 9 + 0)) := h; omega) (by have h := hF _ (List.mem_cons_of_mem _ List.mem_cons_self); have h : 0 ≤ 0 + (1 * ρ 5 + ((-1) * ρ 10 + 0)) := h; omega) (by have h := hF _ (List.mem_cons_of_mem _ (List.mem_cons_of_mem _ List.mem_cons_self)); have h : 0 ≤ 0 + ((-1) * ρ 5 + (1 * ρ 10 + 0)) := h; omega) hG
  obtain ⟨k0, -⟩ := H
  exact ⟨_, List.mem_cons_self, ρ, fun _ _ => rfl, (okM_c (pvp 66 (by show 0 + (1 * ρ 3 + 0) = _; omega) (by show 3 + 0 = _; omega) k0) okM_n), okB_n, okF_n⟩
-- ex161_0
theorem cr_367 (M : pM) (s0 s1 s2 s3 s4 s5 s6 s7 s8 : Int) (b0 : 0 ≤ s0 ∧ s0 ≤ 1900) (b1 : 0 ≤ s1 ∧ s1 ≤ 950) (b2 : 0 ≤ s2 ∧ s2 ≤ 1900) (b3 : 0 ≤ s3 ∧ s3 ≤ 1900) (b4 : 0 ≤ s4 ∧ s4 ≤ 1900) (b5 : 0 ≤ s5 ∧ s5 ≤ 1099511627775) (b6 : 0 ≤ s6 ∧ s6 ≤ 12) (b7 : 0 ≤ s7 ∧ s7 ≤ 20) (b8 : 0 ≤ s8 ∧ s8 ≤ 4) (m0 : HP 53 (4096 * s0 + s1) (256 * s2 + 161) M) (m1 : HP 47 (s2) (262143 : Int) M) (m2 : HP 45 (s2) (s3) M) (m3 : HP 46 (s2) (s4) M) (m4 : HP 90 (2048 * s3 + s4) (s5) M) (m5 : HP 54 (4096 * s0 + s1) (s6 + 32 * s7 + 1024 * s8) M) (m6 : HP 92 (s8) (s5) M) (hG : gI M) : (HP 53 (4096 * s0 + s1) (256 * s4 + 162) M ∧ HP 91 (s0) (s5) M ∧ True) := by
  have hby := hby_tm hG
  obtain ⟨S, hS, hw, ha⟩ := Eq.mp hp_54 m5
  obtain ⟨c1, c2, c3⟩ := qW_o (w := s6) (r := s7) (g := s8) hw (by omega) (by omega) (by omega) (by omega)
  obtain ⟨S2, hS2, hE2⟩ := ex_o (K := 10) (j := 0) (a := s2) (Eq.mp hp_53 m0) ⟨by omega, by omega, by decide, by decide⟩
  have e2 := qat_u hS hS2
  subst e2
  have ha2 : s2 = (qps (tm M) S2.1 1 : Int) := hE2.2.2.2.2
  have hz := (q47 m1).2
  rw [show s2.toNat = qps (tm M) S2.1 1 by omega] at hz
  have g1 := (q45 m2).2
  have g2 := (q46 m3).2
  rw [show s2.toNat = qps (tm M) S2.1 1 by omega] at g1 g2
  obtain ⟨p1, p2, p3⟩ := pk_o (s := s3.toNat) (e := s4.toNat) (Eq.mp hp_90 m4) ⟨by omega, by omega, by omega⟩
  have hv : s5 = qpk 32 96 (tm M) (qps (tm M) S2.1 1) := by unfold qpk; rw [show tS (tm M) (qps (tm M) S2.1 1) = s3.toNat by omega, show tE (tm M) (qps (tm M) S2.1 1) = s4.toNat by omega]; exact p2
  have hnm := ha.2.2.2.2.2.2.2.1
  have hno : ∀ i : Nat, i < 4 → (i : Int) < S2.2 0 2 → qnm (tm M) (S2.2 13 i).toNat ≠ qnm (tm M) (qps (tm M) S2.1 1) := by
    intro i hi hg he
    have hn2 := hnm i hi hg
    have hn1 : M 10 i = _ := hn2.1
    refine Eq.mp hp_92 m6 i hi (by omega) ?_
    rw [hn1, hv]
    unfold qpk
    rw [pkd_l, pkd_l]
    exact congrArg (lpk 32 96) he
  have hx := r_ex (y' := 256 * s4 + 162) (K := 10) (j := 0) m0 m1 m3 ⟨by omega, by omega, by decide⟩ (by omega) (by decide) (fun s hs hE e => by
    have e3 := qat_u hS hs
    subst e3
    show (if tK (tm M) (qps (tm M) s.1 1) ≤ 255 then some 1 else if tK (tm M) (qps (tm M) s.1 1) = 262143 then (if qtn (tm M) s.1 s.2 = true then some 3 else none) else some 2) = none
    rw [e, if_neg (by decide), if_pos rfl, if_neg (qtn_n hno)])
  exact ⟨hx, Eq.mpr hp_91 ⟨by omega, by rw [show s0.toNat = S2.1 by have := qat_p (P := s0) (l := s1) hS ⟨by omega, by omega, by omega⟩; omega]; exact hv⟩, trivial⟩
theorem rul_367 : Rul r_367 := by
  refine ⟨fun _ ρ M hm hB hF hG => ?_, fun gi gv hg => (by cases hg)⟩
  have H := cr_367 M (ρ 0) (ρ 1) (ρ 2) (ρ 3) (ρ 4) (ρ 5) (ρ 6) (ρ 7) (ρ 8) (hB _ List.mem_cons_self) (hB _ (List.mem_cons_of_mem _ List.mem_cons_self)) (hB _ (List.mem_cons_of_mem _ (List.mem_cons_of_mem _ List.mem_cons_self))) (hB _ (List.mem_cons_of_mem _ (List.mem_cons_of_mem _ (List.mem_cons_of_mem _ List.mem_cons_self)))) (hB _ (List.mem_cons_of_mem _ (List.mem_cons_of_mem _ (List.mem_cons_of_mem _ (List.mem_cons_of_mem _ List.mem_cons_self))))) (hB _ (List.mem_cons_of_mem _ (List.mem_cons_of_mem _ (List.mem_cons_of_mem _ (List.mem_cons_of_mem _ (List.mem_cons_of_mem _ List.mem_cons_self)))))) (hB _ (List.mem_cons_of_mem _ (List.mem_cons_of_mem _ (List.mem_cons_of_mem _ (List.mem_cons_of_mem _ (List.mem_cons_of_mem _ (List.mem_cons_of_mem _ List.mem_cons_self))))))) (hB _ (List.mem_cons_of_mem _ (List.mem_cons_of_mem _ (List.mem_cons_of_mem _ (List.mem_cons_of_mem _ (List.mem_cons_of_mem _ (List.mem_cons_of_mem _ (List.mem_cons_of_mem _ List.mem_cons_self)))))))) (hB _ (List.mem_cons_of_mem _ (List.mem_cons_of_mem _ (List.mem_cons_of_mem _ (List.mem_cons_of_mem _ (List.mem_cons_of_mem _ (List.mem_cons_of_mem _ (List.mem_cons_of_mem _ (List.mem_cons_of_mem _ List.mem_cons_self))))))))) (cvp 53 (x' := (4096 * (ρ 0) + (ρ 1))) (y' := (256 * (ρ 2) + 161)) (by show 0 + (4096 * ρ 0 + (1 * ρ 1 + 0)) = _; omega) (by show 161 + (256 * ρ 2 + 0) = _; omega) (hm _ List.mem_cons_self)) (cvp 47 (x' := ((ρ 2))) (y' := (262143 : Int)) (by show 0 + (1 * ρ 2 + 0) = _; omega) (by show 262143 + 0 = _; omega) (hm _ (List.mem_cons_of_mem _ List.mem_cons_self))) (cvp 45 (x' := ((ρ 2))) (y' := ((ρ 3))) (by show 0 + (1 * ρ 2 + 0) = _; omega) (by show 0 + (1 * ρ 3 + 0) = _; omega) (hm _ (List.mem_cons_of_mem _ (List.mem_cons_of_mem _ List.mem_cons_self)))) (cvp 46 (x' := ((ρ 2))) (y' := ((ρ 4))) (by show 0 + (1 * ρ 2 + 0) = _; omega) (by show 0 + (1 * ρ 4 + 0) = _; omega) (hm _ (List.mem_cons_of_mem _ (List.mem_cons_of_mem _ (List.mem_cons_of_mem _ List.mem_cons_self))))) (cvp 90 (x' := (2048 * (ρ 3) + (ρ 4))) (y' := ((ρ 5))) (by show 0 + (2048 * ρ 3 + (1 * ρ 4 + 0)) = _; omega) (by show 0 + (1 * ρ 5 + 0) = _; omega) (hm _ (List.mem_cons_of_mem _ (List.mem_cons_of_mem _ (List.mem_cons_of_mem _ (List.mem_cons_of_mem _ List.mem_cons_self)))))) (cvp 54 (x' := (4096 * (ρ 0) + (ρ 1))) (y' := ((ρ 6) + 32 * (ρ 7) + 1024 * (ρ 8))) (by show 0 + (4096 * ρ 0 + (1 * ρ 1 + 0)) = _; omega) (by show 0 + (1 * ρ 6 + (32 * ρ 7 + (1024 * ρ 8 + 0))) = _; omega) (hm _ (List.mem_cons_of_mem _ (List.mem_cons_of_mem _ (List.mem_cons_of_mem _ (List.mem_cons_of_mem _ (List.mem_cons_of_mem _ List.mem_cons_self))))))) (cvp 92 (x' := ((ρ 8))) (y' := ((ρ 5))) (by show 0 + (1 * ρ 8 + 0) = _; omega) (by show 0 + (1 * ρ 5 + 0) = _; omega) (hm _ (List.mem_cons_of_mem _ (List.mem_cons_of_mem _ (List.mem_cons_of_mem _ (List.mem_cons_of_mem _ (List.mem_cons_of_mem _ (List.mem_cons_of_mem _ List.mem_cons_self)))))))) hG
  obtain ⟨k0, k1, -⟩ := H
  exact ⟨_, List.mem_cons_self, ρ, fun _ _ => rfl, (okM_c (pvp 53 (by show 0 + (4096 * ρ 0 + (1 * ρ 1 + 0)) = _; omega) (by show 162 + (256 * ρ 4 + 0) = _; omega) k0) (okM_c (pvp 91 (by show 0 + (1 * ρ 0 + 0) = _; omega) (by show 0 + (1 * ρ 5 + 0) = _; omega) k1) okM_n)), okB_n, okF_n⟩
-- nmw_0
theorem cr_368 (M : pM) (s0 s1 s2 s3 s4 s5 : Int) (b0 : 0 ≤ s0 ∧ s0 ≤ 1900) (b1 : 0 ≤ s1 ∧ s1 ≤ 950) (b2 : 0 ≤ s2 ∧ s2 ≤ 12) (b3 : 0 ≤ s3 ∧ s3 ≤ 20) (b4 : 0 ≤ s4 ∧ s4 ≤ 3) (b5 : 0 ≤ s5 ∧ s5 ≤ 1099511627775) (m0 : HP 54 (4096 * s0 + s1) (s2 + 32 * s3 + 1024 * s4) M) (hG : gI M) : (HP 54 (4096 * s0 + s1) (s2 + 32 * s3 + 1024 * s4) (st M 10 (s4).toNat (s5)) ∧ (0 ≤ (s4) ∧ (st M 10 (s4).toNat (s5)) 10 (s4).toNat = (s5)) ∧ True) := by
  have hq : qRc 0 (st M 10 (s4.toNat) (s5)) = qU (qRc 0 M) 6 (s4.toNat) (s5) := qRc_st (b := 0) (k := 6)
  have ht : tm (st M 10 (s4.toNat) (s5)) = tm M := tm_st (by decide) (by decide)
  rw [show (s4).toNat = s4.toNat by omega]
  refine ⟨Eq.mpr hp_54 ?_, ⟨by omega, ?_⟩, trivial⟩
  · rw [ht, hq]
    exact k_cnw (w := s2) (r := s3) (g := s4) (Eq.mp hp_54 m0) (by omega) ⟨⟨by omega, by omega⟩, ⟨by omega, by omega⟩, by omega, by omega⟩ (by omega)
  · rw [cw0, if_pos rfl]
theorem rul_368 : Rul r_368 := by
  refine ⟨fun h => (by cases h), fun gi gv hg ρ M hm hB hF hG => ?_⟩
  obtain ⟨g1, g2⟩ := List.cons.inj (show ([aI ((0 : Int), ([(4, 1)] : List (Nat × Int))), aI ((0 : Int), ([(5, 1)] : List (Nat × Int)))] : List av) = [.inl gi, .inl gv] from hg)
  obtain ⟨g2, -⟩ := List.cons.inj g2
  cases g1
  cases g2
  have ei : ev ρ ((0 : Int), ([(4, 1)] : List (Nat × Int))) = ((ρ 4)) := by show 0 + (1 * ρ 4 + 0) = _; omega
  have ew : ev ρ ((0 : Int), ([(5, 1)] : List (Nat × Int))) = ((ρ 5)) := by show 0 + (1 * ρ 5 + 0) = _; omega
  rw [show (st M (ctj r_368) (ev ρ ((0 : Int), ([(4, 1)] : List (Nat × Int)))).toNat (ev ρ ((0 : Int), ([(5, 1)] : List (Nat × Int))))) = (st M 10 ((ρ 4)).toNat ((ρ 5))) from by rw [ei, ew]; rfl]
  have H := cr_368 M (ρ 0) (ρ 1) (ρ 2) (ρ 3) (ρ 4) (ρ 5) (hB _ List.mem_cons_self) (hB _ (List.mem_cons_of_mem _ List.mem_cons_self)) (hB _ (List.mem_cons_of_mem _ (List.mem_cons_of_mem _ List.mem_cons_self))) (hB _ (List.mem_cons_of_mem _ (List.mem_cons_of_mem _ (List.mem_cons_of_mem _ List.mem_cons_self)))) (hB _ (List.mem_cons_of_mem _ (List.mem_cons_of_mem _ (List.mem_cons_of_mem _ (List.mem_cons_of_mem _ List.mem_cons_self))))) (hB _ (List.mem_cons_of_mem _ (List.mem_cons_of_mem _ (List.mem_cons_of_mem _ (List.mem_cons_of_mem _ (List.mem_cons_of_mem _ List.mem_cons_self)))))) (cvp 54 (x' := (4096 * (ρ 0) + (ρ 1))) (y' := ((ρ 2) + 32 * (ρ 3) + 1024 * (ρ 4))) (by show 0 + (4096 * ρ 0 + (1 * ρ 1 + 0)) = _; omega) (by show 0 + (1 * ρ 2 + (32 * ρ 3 + (1024 * ρ 4 + 0))) = _; omega) (hm _ List.mem_cons_self)) hG
  obtain ⟨k0, k1, -⟩ := H
  exact ⟨_, List.mem_cons_self, ρ, fun _ _ => rfl, (okM_c (pvp 54 (by show 0 + (4096 * ρ 0 + (1 * ρ 1 + 0)) = _; omega) (by show 0 + (1 * ρ 2 + (32 * ρ 3 + (1024 * ρ 4 + 0))) = _; omega) k0) (okM_c (pvm (c := 10) (by decide) (by show 0 + (1 * ρ 4 + 0) = _; omega) (by show 0 + (1 * ρ 5 + 0) = _; omega) k1) okM_n)), okB_n, okF_n⟩
-- cge2_0
theorem cr_369 (M : pM) (s0 s1 s2 s3 s4 s5 s6 : Int) (b0 : 0 ≤ s0 ∧ s0 ≤ 1900) (b1 : 0 ≤ s1 ∧ s1 ≤ 950) (b2 : 0 ≤ s2 ∧ s2 ≤ 1900) (b3 : 0 ≤ s3 ∧ s3 ≤ 12) (b4 : 0 ≤ s4 ∧ s4 ≤ 20) (b5 : 0 ≤ s5 ∧ s5 ≤ 3) (b6 : 0 ≤ s6 ∧ s6 ≤ 1099511627775) (m0 : HP 54 (4096 * s0 + s1) (s3 + 32 * s4 + 1024 * s5) M) (m1 : HP 85 (4096 * s0 + s1) (s3 + 32 * s4 + 1024 * s5 + 40960) M) (m2 : HP 91 (s0) (s6) M) (m3 : (0 ≤ (s5) ∧ M 10 (s5).toNat = (s6))) (m4 : HP 53 (4096 * s0 + s1) (256 * s2 + 169) M) (hG : gI M) : (HP 56 (4096 * s0 + s1) (s3 + 32 * s4 + 1024 * s5 + 1024) M ∧ True) := by
  exact ⟨Eq.mpr hp_56 (k_cge2 (w := s3) (r := s4) (g := s5) (P := s0) (l := s1) (Eq.mp hp_54 m0) (Eq.mp hp_85 m1) (by omega) (by omega) ⟨⟨by omega, by omega⟩, ⟨by omega, by omega⟩, by omega, by omega⟩ (ex_o (K := 10) (j := 8) (a := s2) (Eq.mp hp_53 m4) ⟨by omega, by omega, by decide, by decide⟩) ⟨by omega, by omega, by omega⟩ (Eq.mp hp_91 m2).2 m3.2 (by omega)), trivial⟩
theorem rul_369 : Rul r_369 := by
  refine ⟨fun _ ρ M hm hB hF hG => ?_, fun gi gv hg => (by cases hg)⟩
  have H := cr_369 M (ρ 0) (ρ 1) (ρ 2) (ρ 3) (ρ 4) (ρ 5) (ρ 6) (hB _ List.mem_cons_self) (hB _ (List.mem_cons_of_mem _ List.mem_cons_self)) (hB _ (List.mem_cons_of_mem _ (List.mem_cons_of_mem _ List.mem_cons_self))) (hB _ (List.mem_cons_of_mem _ (List.mem_cons_of_mem _ (List.mem_cons_of_mem _ List.mem_cons_self)))) (hB _ (List.mem_cons_of_mem _ (List.mem_cons_of_mem _ (List.mem_cons_of_mem _ (List.mem_cons_of_mem _ List.mem_cons_self))))) (hB _ (List.mem_cons_of_mem _ (List.mem_cons_of_mem _ (List.mem_cons_of_mem _ (List.mem_cons_of_mem _ (List.mem_cons_of_mem _ List.mem_cons_self)))))) (hB _ (List.mem_cons_of_mem _ (List.mem_cons_of_mem _ (List.mem_cons_of_mem _ (List.mem_cons_of_mem _ (List.mem_cons_of_mem _ (List.mem_cons_of_mem _ List.mem_cons_self))))))) (cvp 54 (x' := (4096 * (ρ 0) + (ρ 1))) (y' := ((ρ 3) + 32 * (ρ 4) + 1024 * (ρ 5))) (by show 0 + (4096 * ρ 0 + (1 * ρ 1 + 0)) = _; omega) (by show 0 + (1 * ρ 3 + (32 * ρ 4 + (1024 * ρ 5 + 0))) = _; omega) (hm _ List.mem_cons_self)) (cvp 85 (x' := (4096 * (ρ 0) + (ρ 1))) (y' := ((ρ 3) + 32 * (ρ 4) + 1024 * (ρ 5) + 40960)) (by show 0 + (4096 * ρ 0 + (1 * ρ 1 + 0)) = _; omega) (by show 40960 + (1 * ρ 3 + (32 * ρ 4 + (1024 * ρ 5 + 0))) = _; omega) (hm _ (List.mem_cons_of_mem _ List.mem_cons_self))) (cvp 91 (x' := ((ρ 0))) (y' := ((ρ 6))) (by show 0 + (1 * ρ 0 + 0) = _; omega) (by show 0 + (1 * ρ 6 + 0) = _; omega) (hm _ (List.mem_cons_of_mem _ (List.mem_cons_of_mem _ List.mem_cons_self)))) (cvm (c := 10) (by decide) (x' := ((ρ 5))) (y' := ((ρ 6))) (by show 0 + (1 * ρ 5 + 0) = _; omega) (by show 0 + (1 * ρ 6 + 0) = _; omega) (hm _ (List.mem_cons_of_mem _ (List.mem_cons_of_mem _ (List.mem_cons_of_mem _ List.mem_cons_self))))) (cvp 53 (x' := (4096 * (ρ 0) + (ρ 1))) (y' := (256 * (ρ 2) + 169)) (by show 0 + (4096 * ρ 0 + (1 * ρ 1 + 0)) = _; omega) (by show 169 + (256 * ρ 2 + 0) = _; omega) (hm _ (List.mem_cons_of_mem _ (List.mem_cons_of_mem _ (List.mem_cons_of_mem _ (List.mem_cons_of_mem _ List.mem_cons_self)))))) hG
  obtain ⟨k0, -⟩ := H
  exact ⟨_, List.mem_cons_self, ρ, fun _ _ => rfl, (okM_c (pvp 56 (by show 0 + (4096 * ρ 0 + (1 * ρ 1 + 0)) = _; omega) (by show 1024 + (1 * ρ 3 + (32 * ρ 4 + (1024 * ρ 5 + 0))) = _; omega) k0) okM_n), okB_n, okF_n⟩
-- nn0_1
theorem cr_370 (M : pM) (s0 : Int) (b0 : 0 ≤ s0 ∧ s0 ≤ 1099511627775) (hG : gI M) : (HP 93 (0 : Int) (s0) M ∧ True) := by
  exact ⟨Eq.mpr hp_93 (fun i h1 h2 => by omega), trivial⟩
theorem rul_370 : Rul r_370 := by
  refine ⟨fun _ ρ M hm hB hF hG => ?_, fun gi gv hg => (by cases hg)⟩
  have H := cr_370 M (ρ 0) (hB _ List.mem_cons_self) hG
  obtain ⟨k0, -⟩ := H
  exact ⟨_, List.mem_cons_self, ρ, fun _ _ => rfl, (okM_c (pvp 93 (by show 0 + 0 = _; omega) (by show 0 + (1 * ρ 0 + 0) = _; omega) k0) okM_n), okB_n, okF_n⟩
-- nnn0_1
theorem cr_371 (M : pM) (s0 s1 s2 : Int) (b0 : 0 ≤ s0 ∧ s0 ≤ 1099511627775) (b1 : 0 ≤ s1 ∧ s1 ≤ 3) (m0 : HP 93 (s1) (s0) M) (m1 : (0 ≤ (s1) ∧ M 19 (s1).toNat = (s2))) (f0 : 0 ≤ (s0 + (-1) * s2 - 1)) (hG : gI M) : (HP 93 (s1 + 1) (s0) M ∧ True) := by
  exact ⟨Eq.mpr hp_93 (fun i h1 h2 => if e : i = s1.toNat then (by rw [e, m1.2]; omega) else Eq.mp hp_93 m0 i h1 (by omega)), trivial⟩
theorem rul_371 : Rul r_371 := by
  refine ⟨fun _ ρ M hm hB hF hG => ?_, fun gi gv hg => (by cases hg)⟩
  have H := cr_371 M (ρ 0) (ρ 1) (ρ 2) (hB _ List.mem_cons_self) (hB _ (List.mem_cons_of_mem _ List.mem_cons_self)) (cvp 93 (x' := ((ρ 1))) (y' := ((ρ 0))) (by show 0 + (1 * ρ 1 + 0) = _; omega) (by show 0 + (1 * ρ 0 + 0) = _; omega) (hm _ List.mem_cons_self)) (cvm (c := 19) (by decide) (x' := ((ρ 1))) (y' := ((ρ 2))) (by show 0 + (1 * ρ 1 + 0) = _; omega) (by show 0 + (1 * ρ 2 + 0) = _; omega) (hm _ (List.mem_cons_of_mem _ List.mem_cons_self))) (by have h := hF _ List.mem_cons_self; have h : 0 ≤ (-1) + (1 * ρ 0 + ((-1) * ρ 2 + 0)) := h; omega) hG
  obtain ⟨k0, -⟩ := H
  exact ⟨_, List.mem_cons_self, ρ, fun _ _ => rfl, (okM_c (pvp 93 (by show 1 + (1 * ρ 1 + 0) = _; omega) (by show 0 + (1 * ρ 0 + 0) = _; omega) k0) okM_n), okB_n, okF_n⟩
-- nnn1_1
theorem cr_372 (M : pM) (s0 s1 s2 : Int) (b0 : 0 ≤ s0 ∧ s0 ≤ 1099511627775) (b1 : 0 ≤ s1 ∧ s1 ≤ 3) (m0 : HP 93 (s1) (s0) M) (m1 : (0 ≤ (s1) ∧ M 19 (s1).toNat = (s2))) (f0 : 0 ≤ ((-1) * s0 + s2 - 1)) (hG : gI M) : (HP 93 (s1 + 1) (s0) M ∧ True) := by
  exact ⟨Eq.mpr hp_93 (fun i h1 h2 => if e : i = s1.toNat then (by rw [e, m1.2]; omega) else Eq.mp hp_93 m0 i h1 (by omega)), trivial⟩
theorem rul_372 : Rul r_372 := by
  refine ⟨fun _ ρ M hm hB hF hG => ?_, fun gi gv hg => (by cases hg)⟩
  have H := cr_372 M (ρ 0) (ρ 1) (ρ 2) (hB _ List.mem_cons_self) (hB _ (List.mem_cons_of_mem _ List.mem_cons_self)) (cvp 93 (x' := ((ρ 1))) (y' := ((ρ 0))) (by show 0 + (1 * ρ 1 + 0) = _; omega) (by show 0 + (1 * ρ 0 + 0) = _; omega) (hm _ List.mem_cons_self)) (cvm (c := 19) (by decide) (x' := ((ρ 1))) (y' := ((ρ 2))) (by show 0 + (1 * ρ 1 + 0) = _; omega) (by show 0 + (1 * ρ 2 + 0) = _; omega) (hm _ (List.mem_cons_of_mem _ List.mem_cons_self))) (by have h := hF _ List.mem_cons_self; have h : 0 ≤ (-1) + ((-1) * ρ 0 + (1 * ρ 2 + 0)) := h; omega) hG
  obtain ⟨k0, -⟩ := H
  exact ⟨_, List.mem_cons_self, ρ, fun _ _ => rfl, (okM_c (pvp 93 (by show 1 + (1 * ρ 1 + 0) = _; omega) (by show 0 + (1 * ρ 0 + 0) = _; omega) k0) okM_n), okB_n, okF_n⟩
-- nnx_1
theorem cr_373 (M : pM) (s0 s1 s2 : Int) (b0 : 0 ≤ s0 ∧ s0 ≤ 1099511627775) (b1 : 0 ≤ s1 ∧ s1 ≤ 4) (b2 : 0 ≤ s2 ∧ s2 ≤ 4) (m0 : HP 93 (s1) (s0) M) (f0 : 0 ≤ ((-1) * s1 + s2)) (f1 : 0 ≤ (s1 + (-1) * s2)) (hG : gI M) : (HP 93 (s2) (s0) M ∧ True) := by
  have e : s1 = s2 := by omega
  subst e
  exact ⟨m0, trivial⟩
theorem rul_373 : Rul r_373 := by
  refine ⟨fun _ ρ M hm hB hF hG => ?_, fun gi gv hg => (by cases hg)⟩
  have H := cr_373 M (ρ 0) (ρ 1) (ρ 2) (hB _ List.mem_cons_self) (hB _ (List.mem_cons_of_mem _ List.mem_cons_self)) (hB _ (List.mem_cons_of_mem _ (List.mem_cons_of_mem _ List.mem_cons_self))) (cvp 93 (x' := ((ρ 1))) (y' := ((ρ 0))) (by show 0 + (1 * ρ 1 + 0) = _; omega) (by show 0 + (1 * ρ 0 + 0) = _; omega) (hm _ List.mem_cons_self)) (by have h := hF _ List.mem_cons_self; have h : 0 ≤ 0 + ((-1) * ρ 1 + (1 * ρ 2 + 0)) := h; omega) (by have h := hF _ (List.mem_cons_of_mem _ List.mem_cons_self); have h : 0 ≤ 0 + (1 * ρ 1 + ((-1) * ρ 2 + 0)) := h; omega) hG
  obtain ⟨k0, -⟩ := H
  exact ⟨_, List.mem_cons_self, ρ, fun _ _ => rfl, (okM_c (pvp 93 (by show 0 + (1 * ρ 2 + 0) = _; omega) (by show 0 + (1 * ρ 0 + 0) = _; omega) k0) okM_n), okB_n, okF_n⟩
-- told10_1
theorem cr_374 (M : pM) (s0 s1 s2 s3 s4 s5 s6 s7 s8 s9 s10 : Int) (b0 : 0 ≤ s0 ∧ s0 ≤ 1900) (b1 : 0 ≤ s1 ∧ s1 ≤ 950) (b2 : 0 ≤ s2 ∧ s2 ≤ 1900) (b3 : 0 ≤ s3 ∧ s3 ≤ 1900) (b4 : 0 ≤ s4 ∧ s4 ≤ 1900) (b5 : 0 ≤ s5 ∧ s5 ≤ 1099511627775) (b6 : 0 ≤ s6 ∧ s6 ≤ 12) (b7 : 0 ≤ s7 ∧ s7 ≤ 20) (b8 : 0 ≤ s8 ∧ s8 ≤ 4) (b9 : 0 ≤ s9 ∧ s9 ≤ 3) (m0 : HP 53 (4096 * s0 + s1) (256 * s2 + 161) M) (m1 : HP 47 (s2) (262143 : Int) M) (m2 : HP 45 (s2) (s3) M) (m3 : HP 46 (s2) (s4) M) (m4 : HP 90 (2048 * s3 + s4) (s5) M) (m5 : HP 55 (4096 * s0 + s1) (s6 + 32 * s7 + 1024 * s8) M) (m6 : (0 ≤ (s9) ∧ M 19 (s9).toNat = (s10))) (f0 : 0 ≤ (s8 + (-1) * s9 - 1)) (f1 : 0 ≤ (s5 + (-1) * s10)) (f2 : 0 ≤ ((-1) * s5 + s10)) (hG : gI M) : (HP 66 (s3) (3 : Int) M ∧ True) := by
  have hby := hby_tm hG
  obtain ⟨S, hS, hw, ha⟩ := Eq.mp hp_55 m5
  obtain ⟨c1, c2, c3⟩ := qW_o (w := s6) (r := s7) (g := s8) hw (by omega) (by omega) (by omega) (by omega)
  obtain ⟨S2, hS2, hE2⟩ := ex_o (K := 10) (j := 0) (a := s2) (Eq.mp hp_53 m0) ⟨by omega, by omega, by decide, by decide⟩
  have e2 := qat_u hS hS2
  subst e2
  have ha2 : s2 = (qps (tm M) S2.1 1 : Int) := hE2.2.2.2.2
  have hz := (q47 m1).2
  rw [show s2.toNat = qps (tm M) S2.1 1 by omega] at hz
  have g1 := (q45 m2).2
  have g2 := (q46 m3).2
  rw [show s2.toNat = qps (tm M) S2.1 1 by omega] at g1 g2
  obtain ⟨p1, p2, p3⟩ := pk_o (s := s3.toNat) (e := s4.toNat) (Eq.mp hp_90 m4) ⟨by omega, by omega, by omega⟩
  have hv : s5 = qpk 32 96 (tm M) (qps (tm M) S2.1 1) := by unfold qpk; rw [show tS (tm M) (qps (tm M) S2.1 1) = s3.toNat by omega, show tE (tm M) (qps (tm M) S2.1 1) = s4.toNat by omega]; exact p2
  have hnm := ha.2.2.2.2.2.2.2.1
  have hi : M 19 s9.toNat = s10 := m6.2
  have hn2 := hnm s9.toNat (by omega) (by omega)
  have hn1 : M 19 s9.toNat = _ := hn2.1
  have hq : qtn (tm M) S2.1 S2.2 = true := qtn_i (i := s9.toNat) (by omega) (by omega) (nm_eq (m := 32) (a := 96) (hi := 26) (by decide) (by decide) hby (fun c _ _ => by omega) hn2.2 (by omega) (by rw [← hn1, ← hv]; omega))
  refine ⟨r_fl (K := 10) (j := 0) m0 m1 m2 ⟨by omega, by omega, by decide⟩ (fun s hs hE e => ?_), trivial⟩
  have e3 := qat_u hS hs
  subst e3
  show (if tK (tm M) (qps (tm M) s.1 1) ≤ 255 then some 1 else if tK (tm M) (qps (tm M) s.1 1) = 262143 then (if qtn (tm M) s.1 s.2 = true then some 3 else none) else some 2) = some 3
  rw [e, if_neg (by decide), if_pos rfl, if_pos hq]
theorem rul_374 : Rul r_374 := by
  refine ⟨fun _ ρ M hm hB hF hG => ?_, fun gi gv hg => (by cases hg)⟩
  have H := cr_374 M (ρ 0) (ρ 1) (ρ 2) (ρ 3) (ρ 4) (ρ 5) (ρ 6) (ρ 7) (ρ 8) (ρ 9) (ρ 10) (hB _ List.mem_cons_self) (hB _ (List.mem_cons_of_mem _ List.mem_cons_self)) (hB _ (List.mem_cons_of_mem _ (List.mem_cons_of_mem _ List.mem_cons_self))) (hB _ (List.mem_cons_of_mem _ (List.mem_cons_of_mem _ (List.mem_cons_of_mem _ List.mem_cons_self)))) (hB _ (List.mem_cons_of_mem _ (List.mem_cons_of_mem _ (List.mem_cons_of_mem _ (List.mem_cons_of_mem _ List.mem_cons_self))))) (hB _ (List.mem_cons_of_mem _ (List.mem_cons_of_mem _ (List.mem_cons_of_mem _ (List.mem_cons_of_mem _ (List.mem_cons_of_mem _ List.mem_cons_self)))))) (hB _ (List.mem_cons_of_mem _ (List.mem_cons_of_mem _ (List.mem_cons_of_mem _ (List.mem_cons_of_mem _ (List.mem_cons_of_mem _ (List.mem_cons_of_mem _ List.mem_cons_self))))))) (hB _ (List.mem_cons_of_mem _ (List.mem_cons_of_mem _ (List.mem_cons_of_mem _ (List.mem_cons_of_mem _ (List.mem_cons_of_mem _ (List.mem_cons_of_mem _ (List.mem_cons_of_mem _ List.mem_cons_self)))))))) (hB _ (List.mem_cons_of_mem _ (List.mem_cons_of_mem _ (List.mem_cons_of_mem _ (List.mem_cons_of_mem _ (List.mem_cons_of_mem _ (List.mem_cons_of_mem _ (List.mem_cons_of_mem _ (List.mem_cons_of_mem _ List.mem_cons_self))))))))) (hB _ (List.mem_cons_of_mem _ (List.mem_cons_of_mem _ (List.mem_cons_of_mem _ (List.mem_cons_of_mem _ (List.mem_cons_of_mem _ (List.mem_cons_of_mem _ (List.mem_cons_of_mem _ (List.mem_cons_of_mem _ (List.mem_cons_of_mem _ List.mem_cons_self)))))))))) (cvp 53 (x' := (4096 * (ρ 0) + (ρ 1))) (y' := (256 * (ρ 2) + 161)) (by show 0 + (4096 * ρ 0 + (1 * ρ 1 + 0)) = _; omega) (by show 161 + (256 * ρ 2 + 0) = _; omega) (hm _ List.mem_cons_self)) (cvp 47 (x' := ((ρ 2))) (y' := (262143 : Int)) (by show 0 + (1 * ρ 2 + 0) = _; omega) (by show 262143 + 0 = _; omega) (hm _ (List.mem_cons_of_mem _ List.mem_cons_self))) (cvp 45 (x' := ((ρ 2))) (y' := ((ρ 3))) (by show 0 + (1 * ρ 2 + 0) = _; omega) (by show 0 + (1 * ρ 3 + 0) = _; omega) (hm _ (List.mem_cons_of_mem _ (List.mem_cons_of_mem _ List.mem_cons_self)))) (cvp 46 (x' := ((ρ 2))) (y' := ((ρ 4))) (by show 0 + (1 * ρ 2 + 0) = _; omega) (by show 0 + (1 * ρ 4 + 0) = _; omega) (hm _ (List.mem_cons_of_mem _ (List.mem_cons_of_mem _ (List.mem_cons_of_mem _ List.mem_cons_self))))) (cvp 90 (x' := (2048 * (ρ 3) + (ρ 4))) (y' := ((ρ 5))) (by show 0 + (2048 * ρ 3 + (1 * ρ 4 + 0)) = _; omega) (by show 0 + (1 * ρ 5 + 0) = _; omega) (hm _ (List.mem_cons_of_mem _ (List.mem_cons_of_mem _ (List.mem_cons_of_mem _ (List.mem_cons_of_mem _ List.mem_cons_self)))))) (cvp 55 (x' := (4096 * (ρ 0) + (ρ 1))) (y' := ((ρ 6) + 32 * (ρ 7) + 1024 * (ρ 8))) (by show 0 + (4096 * ρ 0 + (1 * ρ 1 + 0)) = _; omega) (by show 0 + (1 * ρ 6 + (32 * ρ 7 + (1024 * ρ 8 + 0))) = _; omega) (hm _ (List.mem_cons_of_mem _ (List.mem_cons_of_mem _ (List.mem_cons_of_mem _ (List.mem_cons_of_mem _ (List.mem_cons_of_mem _ List.mem_cons_self))))))) (cvm (c := 19) (by decide) (x' := ((ρ 9))) (y' := ((ρ 10))) (by show 0 + (1 * ρ 9 + 0) = _; omega) (by show 0 + (1 * ρ 10 + 0) = _; omega) (hm _ (List.mem_cons_of_mem _ (List.mem_cons_of_mem _ (List.mem_cons_of_mem _ (List.mem_cons_of_mem _ (List.mem_cons_of_mem _ (List.mem_cons_of_mem _ List.mem_cons_self)))))))) (by have h := hF _ List.mem_cons_self; have h : 0 ≤ (-1) + (1 * ρ 8 + ((-1) * ρ 9 + 0)) := h; omega) (by have h := hF _ (List.mem_cons_of_mem _ List.mem_cons_self); have h : 0 ≤ 0 + (1 * ρ 5 + ((-1) * ρ 10 + 0)) := h; omega) (by have h := hF _ (List.mem_cons_of_mem _ (List.mem_cons_of_mem _ List.mem_cons_self)); have h : 0 ≤ 0 + ((-1) * ρ 5 + (1 * ρ 10 + 0)) := h; omega) hG
  obtain ⟨k0, -⟩ := H
  exact ⟨_, List.mem_cons_self, ρ, fun _ _ => rfl, (okM_c (pvp 66 (by show 0 + (1 * ρ 3 + 0) = _; omega) (by show 3 + 0 = _; omega) k0) okM_n), okB_n, okF_n⟩
-- ex161_1
theorem cr_375 (M : pM) (s0 s1 s2 s3 s4 s5 s6 s7 s8 : Int) (b0 : 0 ≤ s0 ∧ s0 ≤ 1900) (b1 : 0 ≤ s1 ∧ s1 ≤ 950) (b2 : 0 ≤ s2 ∧ s2 ≤ 1900) (b3 : 0 ≤ s3 ∧ s3 ≤ 1900) (b4 : 0 ≤ s4 ∧ s4 ≤ 1900) (b5 : 0 ≤ s5 ∧ s5 ≤ 1099511627775) (b6 : 0 ≤ s6 ∧ s6 ≤ 12) (b7 : 0 ≤ s7 ∧ s7 ≤ 20) (b8 : 0 ≤ s8 ∧ s8 ≤ 4) (m0 : HP 53 (4096 * s0 + s1) (256 * s2 + 161) M) (m1 : HP 47 (s2) (262143 : Int) M) (m2 : HP 45 (s2) (s3) M) (m3 : HP 46 (s2) (s4) M) (m4 : HP 90 (2048 * s3 + s4) (s5) M) (m5 : HP 55 (4096 * s0 + s1) (s6 + 32 * s7 + 1024 * s8) M) (m6 : HP 93 (s8) (s5) M) (hG : gI M) : (HP 53 (4096 * s0 + s1) (256 * s4 + 162) M ∧ HP 91 (s0) (s5) M ∧ True) := by
  have hby := hby_tm hG
  obtain ⟨S, hS, hw, ha⟩ := Eq.mp hp_55 m5
  obtain ⟨c1, c2, c3⟩ := qW_o (w := s6) (r := s7) (g := s8) hw (by omega) (by omega) (by omega) (by omega)
  obtain ⟨S2, hS2, hE2⟩ := ex_o (K := 10) (j := 0) (a := s2) (Eq.mp hp_53 m0) ⟨by omega, by omega, by decide, by decide⟩
  have e2 := qat_u hS hS2
  subst e2
  have ha2 : s2 = (qps (tm M) S2.1 1 : Int) := hE2.2.2.2.2
  have hz := (q47 m1).2
  rw [show s2.toNat = qps (tm M) S2.1 1 by omega] at hz
  have g1 := (q45 m2).2
  have g2 := (q46 m3).2
  rw [show s2.toNat = qps (tm M) S2.1 1 by omega] at g1 g2
  obtain ⟨p1, p2, p3⟩ := pk_o (s := s3.toNat) (e := s4.toNat) (Eq.mp hp_90 m4) ⟨by omega, by omega, by omega⟩
  have hv : s5 = qpk 32 96 (tm M) (qps (tm M) S2.1 1) := by unfold qpk; rw [show tS (tm M) (qps (tm M) S2.1 1) = s3.toNat by omega, show tE (tm M) (qps (tm M) S2.1 1) = s4.toNat by omega]; exact p2
  have hnm := ha.2.2.2.2.2.2.2.1
  have hno : ∀ i : Nat, i < 4 → (i : Int) < S2.2 0 2 → qnm (tm M) (S2.2 13 i).toNat ≠ qnm (tm M) (qps (tm M) S2.1 1) := by
    intro i hi hg he
    have hn2 := hnm i hi hg
    have hn1 : M 19 i = _ := hn2.1
    refine Eq.mp hp_93 m6 i hi (by omega) ?_
    rw [hn1, hv]
    unfold qpk
    rw [pkd_l, pkd_l]
    exact congrArg (lpk 32 96) he
  have hx := r_ex (y' := 256 * s4 + 162) (K := 10) (j := 0) m0 m1 m3 ⟨by omega, by omega, by decide⟩ (by omega) (by decide) (fun s hs hE e => by
    have e3 := qat_u hS hs
    subst e3
    show (if tK (tm M) (qps (tm M) s.1 1) ≤ 255 then some 1 else if tK (tm M) (qps (tm M) s.1 1) = 262143 then (if qtn (tm M) s.1 s.2 = true then some 3 else none) else some 2) = none
    rw [e, if_neg (by decide), if_pos rfl, if_neg (qtn_n hno)])
  exact ⟨hx, Eq.mpr hp_91 ⟨by omega, by rw [show s0.toNat = S2.1 by have := qat_p (P := s0) (l := s1) hS ⟨by omega, by omega, by omega⟩; omega]; exact hv⟩, trivial⟩
theorem rul_375 : Rul r_375 := by
  refine ⟨fun _ ρ M hm hB hF hG => ?_, fun gi gv hg => (by cases hg)⟩
  have H := cr_375 M (ρ 0) (ρ 1) (ρ 2) (ρ 3) (ρ 4) (ρ 5) (ρ 6) (ρ 7) (ρ 8) (hB _ List.mem_cons_self) (hB _ (List.mem_cons_of_mem _ List.mem_cons_self)) (hB _ (List.mem_cons_of_mem _ (List.mem_cons_of_mem _ List.mem_cons_self))) (hB _ (List.mem_cons_of_mem _ (List.mem_cons_of_mem _ (List.mem_cons_of_mem _ List.mem_cons_self)))) (hB _ (List.mem_cons_of_mem _ (List.mem_cons_of_mem _ (List.mem_cons_of_mem _ (List.mem_cons_of_mem _ List.mem_cons_self))))) (hB _ (List.mem_cons_of_mem _ (List.mem_cons_of_mem _ (List.mem_cons_of_mem _ (List.mem_cons_of_mem _ (List.mem_cons_of_mem _ List.mem_cons_self)))))) (hB _ (List.mem_cons_of_mem _ (List.mem_cons_of_mem _ (List.mem_cons_of_mem _ (List.mem_cons_of_mem _ (List.mem_cons_of_mem _ (List.mem_cons_of_mem _ List.mem_cons_self))))))) (hB _ (List.mem_cons_of_mem _ (List.mem_cons_of_mem _ (List.mem_cons_of_mem _ (List.mem_cons_of_mem _ (List.mem_cons_of_mem _ (List.mem_cons_of_mem _ (List.mem_cons_of_mem _ List.mem_cons_self)))))))) (hB _ (List.mem_cons_of_mem _ (List.mem_cons_of_mem _ (List.mem_cons_of_mem _ (List.mem_cons_of_mem _ (List.mem_cons_of_mem _ (List.mem_cons_of_mem _ (List.mem_cons_of_mem _ (List.mem_cons_of_mem _ List.mem_cons_self))))))))) (cvp 53 (x' := (4096 * (ρ 0) + (ρ 1))) (y' := (256 * (ρ 2) + 161)) (by show 0 + (4096 * ρ 0 + (1 * ρ 1 + 0)) = _; omega) (by show 161 + (256 * ρ 2 + 0) = _; omega) (hm _ List.mem_cons_self)) (cvp 47 (x' := ((ρ 2))) (y' := (262143 : Int)) (by show 0 + (1 * ρ 2 + 0) = _; omega) (by show 262143 + 0 = _; omega) (hm _ (List.mem_cons_of_mem _ List.mem_cons_self))) (cvp 45 (x' := ((ρ 2))) (y' := ((ρ 3))) (by show 0 + (1 * ρ 2 + 0) = _; omega) (by show 0 + (1 * ρ 3 + 0) = _; omega) (hm _ (List.mem_cons_of_mem _ (List.mem_cons_of_mem _ List.mem_cons_self)))) (cvp 46 (x' := ((ρ 2))) (y' := ((ρ 4))) (by show 0 + (1 * ρ 2 + 0) = _; omega) (by show 0 + (1 * ρ 4 + 0) = _; omega) (hm _ (List.mem_cons_of_mem _ (List.mem_cons_of_mem _ (List.mem_cons_of_mem _ List.mem_cons_self))))) (cvp 90 (x' := (2048 * (ρ 3) + (ρ 4))) (y' := ((ρ 5))) (by show 0 + (2048 * ρ 3 + (1 * ρ 4 + 0)) = _; omega) (by show 0 + (1 * ρ 5 + 0) = _; omega) (hm _ (List.mem_cons_of_mem _ (List.mem_cons_of_mem _ (List.mem_cons_of_mem _ (List.mem_cons_of_mem _ List.mem_cons_self)))))) (cvp 55 (x' := (4096 * (ρ 0) + (ρ 1))) (y' := ((ρ 6) + 32 * (ρ 7) + 1024 * (ρ 8))) (by show 0 + (4096 * ρ 0 + (1 * ρ 1 + 0)) = _; omega) (by show 0 + (1 * ρ 6 + (32 * ρ 7 + (1024 * ρ 8 + 0))) = _; omega) (hm _ (List.mem_cons_of_mem _ (List.mem_cons_of_mem _ (List.mem_cons_of_mem _ (List.mem_cons_of_mem _ (List.mem_cons_of_mem _ List.mem_cons_self))))))) (cvp 93 (x' := ((ρ 8))) (y' := ((ρ 5))) (by show 0 + (1 * ρ 8 + 0) = _; omega) (by show 0 + (1 * ρ 5 + 0) = _; omega) (hm _ (List.mem_cons_of_mem _ (List.mem_cons_of_mem _ (List.mem_cons_of_mem _ (List.mem_cons_of_mem _ (List.mem_cons_of_mem _ (List.mem_cons_of_mem _ List.mem_cons_self)))))))) hG
  obtain ⟨k0, k1, -⟩ := H
  exact ⟨_, List.mem_cons_self, ρ, fun _ _ => rfl, (okM_c (pvp 53 (by show 0 + (4096 * ρ 0 + (1 * ρ 1 + 0)) = _; omega) (by show 162 + (256 * ρ 4 + 0) = _; omega) k0) (okM_c (pvp 91 (by show 0 + (1 * ρ 0 + 0) = _; omega) (by show 0 + (1 * ρ 5 + 0) = _; omega) k1) okM_n)), okB_n, okF_n⟩
-- nmw_1
theorem cr_376 (M : pM) (s0 s1 s2 s3 s4 s5 : Int) (b0 : 0 ≤ s0 ∧ s0 ≤ 1900) (b1 : 0 ≤ s1 ∧ s1 ≤ 950) (b2 : 0 ≤ s2 ∧ s2 ≤ 12) (b3 : 0 ≤ s3 ∧ s3 ≤ 20) (b4 : 0 ≤ s4 ∧ s4 ≤ 3) (b5 : 0 ≤ s5 ∧ s5 ≤ 1099511627775) (m0 : HP 55 (4096 * s0 + s1) (s2 + 32 * s3 + 1024 * s4) M) (hG : gI M) : (HP 55 (4096 * s0 + s1) (s2 + 32 * s3 + 1024 * s4) (st M 19 (s4).toNat (s5)) ∧ (0 ≤ (s4) ∧ (st M 19 (s4).toNat (s5)) 19 (s4).toNat = (s5)) ∧ True) := by
  have hq : qRc 1 (st M 19 (s4.toNat) (s5)) = qU (qRc 1 M) 6 (s4.toNat) (s5) := qRc_st (b := 1) (k := 6)
  have ht : tm (st M 19 (s4.toNat) (s5)) = tm M := tm_st (by decide) (by decide)
  rw [show (s4).toNat = s4.toNat by omega]
  refine ⟨Eq.mpr hp_55 ?_, ⟨by omega, ?_⟩, trivial⟩
  · rw [ht, hq]
    exact k_cnw (w := s2) (r := s3) (g := s4) (Eq.mp hp_55 m0) (by omega) ⟨⟨by omega, by omega⟩, ⟨by omega, by omega⟩, by omega, by omega⟩ (by omega)
  · rw [cw0, if_pos rfl]
theorem rul_376 : Rul r_376 := by
  refine ⟨fun h => (by cases h), fun gi gv hg ρ M hm hB hF hG => ?_⟩
  obtain ⟨g1, g2⟩ := List.cons.inj (show ([aI ((0 : Int), ([(4, 1)] : List (Nat × Int))), aI ((0 : Int), ([(5, 1)] : List (Nat × Int)))] : List av) = [.inl gi, .inl gv] from hg)
  obtain ⟨g2, -⟩ := List.cons.inj g2
  cases g1
  cases g2
  have ei : ev ρ ((0 : Int), ([(4, 1)] : List (Nat × Int))) = ((ρ 4)) := by show 0 + (1 * ρ 4 + 0) = _; omega
  have ew : ev ρ ((0 : Int), ([(5, 1)] : List (Nat × Int))) = ((ρ 5)) := by show 0 + (1 * ρ 5 + 0) = _; omega
  rw [show (st M (ctj r_376) (ev ρ ((0 : Int), ([(4, 1)] : List (Nat × Int)))).toNat (ev ρ ((0 : Int), ([(5, 1)] : List (Nat × Int))))) = (st M 19 ((ρ 4)).toNat ((ρ 5))) from by rw [ei, ew]; rfl]
  have H := cr_376 M (ρ 0) (ρ 1) (ρ 2) (ρ 3) (ρ 4) (ρ 5) (hB _ List.mem_cons_self) (hB _ (List.mem_cons_of_mem _ List.mem_cons_self)) (hB _ (List.mem_cons_of_mem _ (List.mem_cons_of_mem _ List.mem_cons_self))) (hB _ (List.mem_cons_of_mem _ (List.mem_cons_of_mem _ (List.mem_cons_of_mem _ List.mem_cons_self)))) (hB _ (List.mem_cons_of_mem _ (List.mem_cons_of_mem _ (List.mem_cons_of_mem _ (List.mem_cons_of_mem _ List.mem_cons_self))))) (hB _ (List.mem_cons_of_mem _ (List.mem_cons_of_mem _ (List.mem_cons_of_mem _ (List.mem_cons_of_mem _ (List.mem_cons_of_mem _ List.mem_cons_self)))))) (cvp 55 (x' := (4096 * (ρ 0) + (ρ 1))) (y' := ((ρ 2) + 32 * (ρ 3) + 1024 * (ρ 4))) (by show 0 + (4096 * ρ 0 + (1 * ρ 1 + 0)) = _; omega) (by show 0 + (1 * ρ 2 + (32 * ρ 3 + (1024 * ρ 4 + 0))) = _; omega) (hm _ List.mem_cons_self)) hG
  obtain ⟨k0, k1, -⟩ := H
  exact ⟨_, List.mem_cons_self, ρ, fun _ _ => rfl, (okM_c (pvp 55 (by show 0 + (4096 * ρ 0 + (1 * ρ 1 + 0)) = _; omega) (by show 0 + (1 * ρ 2 + (32 * ρ 3 + (1024 * ρ 4 + 0))) = _; omega) k0) (okM_c (pvm (c := 19) (by decide) (by show 0 + (1 * ρ 4 + 0) = _; omega) (by show 0 + (1 * ρ 5 + 0) = _; omega) k1) okM_n)), okB_n, okF_n⟩
-- cge2_1
theorem cr_377 (M : pM) (s0 s1 s2 s3 s4 s5 s6 : Int) (b0 : 0 ≤ s0 ∧ s0 ≤ 1900) (b1 : 0 ≤ s1 ∧ s1 ≤ 950) (b2 : 0 ≤ s2 ∧ s2 ≤ 1900) (b3 : 0 ≤ s3 ∧ s3 ≤ 12) (b4 : 0 ≤ s4 ∧ s4 ≤ 20) (b5 : 0 ≤ s5 ∧ s5 ≤ 3) (b6 : 0 ≤ s6 ∧ s6 ≤ 1099511627775) (m0 : HP 55 (4096 * s0 + s1) (s3 + 32 * s4 + 1024 * s5) M) (m1 : HP 86 (4096 * s0 + s1) (s3 + 32 * s4 + 1024 * s5 + 40960) M) (m2 : HP 91 (s0) (s6) M) (m3 : (0 ≤ (s5) ∧ M 19 (s5).toNat = (s6))) (m4 : HP 53 (4096 * s0 + s1) (256 * s2 + 169) M) (hG : gI M) : (HP 57 (4096 * s0 + s1) (s3 + 32 * s4 + 1024 * s5 + 1024) M ∧ True) := by
  exact ⟨Eq.mpr hp_57 (k_cge2 (w := s3) (r := s4) (g := s5) (P := s0) (l := s1) (Eq.mp hp_55 m0) (Eq.mp hp_86 m1) (by omega) (by omega) ⟨⟨by omega, by omega⟩, ⟨by omega, by omega⟩, by omega, by omega⟩ (ex_o (K := 10) (j := 8) (a := s2) (Eq.mp hp_53 m4) ⟨by omega, by omega, by decide, by decide⟩) ⟨by omega, by omega, by omega⟩ (Eq.mp hp_91 m2).2 m3.2 (by omega)), trivial⟩
theorem rul_377 : Rul r_377 := by
  refine ⟨fun _ ρ M hm hB hF hG => ?_, fun gi gv hg => (by cases hg)⟩
  have H := cr_377 M (ρ 0) (ρ 1) (ρ 2) (ρ 3) (ρ 4) (ρ 5) (ρ 6) (hB _ List.mem_cons_self) (hB _ (List.mem_cons_of_mem _ List.mem_cons_self)) (hB _ (List.mem_cons_of_mem _ (List.mem_cons_of_mem _ List.mem_cons_self))) (hB _ (List.mem_cons_of_mem _ (List.mem_cons_of_mem _ (List.mem_cons_of_mem _ List.mem_cons_self)))) (hB _ (List.mem_cons_of_mem _ (List.mem_cons_of_mem _ (List.mem_cons_of_mem _ (List.mem_cons_of_mem _ List.mem_cons_self))))) (hB _ (List.mem_cons_of_mem _ (List.mem_cons_of_mem _ (List.mem_cons_of_mem _ (List.mem_cons_of_mem _ (List.mem_cons_of_mem _ List.mem_cons_self)))))) (hB _ (List.mem_cons_of_mem _ (List.mem_cons_of_mem _ (List.mem_cons_of_mem _ (List.mem_cons_of_mem _ (List.mem_cons_of_mem _ (List.mem_cons_of_mem _ List.mem_cons_self))))))) (cvp 55 (x' := (4096 * (ρ 0) + (ρ 1))) (y' := ((ρ 3) + 32 * (ρ 4) + 1024 * (ρ 5))) (by show 0 + (4096 * ρ 0 + (1 * ρ 1 + 0)) = _; omega) (by show 0 + (1 * ρ 3 + (32 * ρ 4 + (1024 * ρ 5 + 0))) = _; omega) (hm _ List.mem_cons_self)) (cvp 86 (x' := (4096 * (ρ 0) + (ρ 1))) (y' := ((ρ 3) + 32 * (ρ 4) + 1024 * (ρ 5) + 40960)) (by show 0 + (4096 * ρ 0 + (1 * ρ 1 + 0)) = _; omega) (by show 40960 + (1 * ρ 3 + (32 * ρ 4 + (1024 * ρ 5 + 0))) = _; omega) (hm _ (List.mem_cons_of_mem _ List.mem_cons_self))) (cvp 91 (x' := ((ρ 0))) (y' := ((ρ 6))) (by show 0 + (1 * ρ 0 + 0) = _; omega) (by show 0 + (1 * ρ 6 + 0) = _; omega) (hm _ (List.mem_cons_of_mem _ (List.mem_cons_of_mem _ List.mem_cons_self)))) (cvm (c := 19) (by decide) (x' := ((ρ 5))) (y' := ((ρ 6))) (by show 0 + (1 * ρ 5 + 0) = _; omega) (by show 0 + (1 * ρ 6 + 0) = _; omega) (hm _ (List.mem_cons_of_mem _ (List.mem_cons_of_mem _ (List.mem_cons_of_mem _ List.mem_cons_self))))) (cvp 53 (x' := (4096 * (ρ 0) + (ρ 1))) (y' := (256 * (ρ 2) + 169)) (by show 0 + (4096 * ρ 0 + (1 * ρ 1 + 0)) = _; omega) (by show 169 + (256 * ρ 2 + 0) = _; omega) (hm _ (List.mem_cons_of_mem _ (List.mem_cons_of_mem _ (List.mem_cons_of_mem _ (List.mem_cons_of_mem _ List.mem_cons_self)))))) hG
  obtain ⟨k0, -⟩ := H
  exact ⟨_, List.mem_cons_self, ρ, fun _ _ => rfl, (okM_c (pvp 57 (by show 0 + (4096 * ρ 0 + (1 * ρ 1 + 0)) = _; omega) (by show 1024 + (1 * ρ 3 + (32 * ρ 4 + (1024 * ρ 5 + 0))) = _; omega) k0) okM_n), okB_n, okF_n⟩
-- told8
theorem cr_378 (M : pM) (s0 s1 s2 s3 s4 s5 s6 s7 s8 s9 s10 : Int) (b0 : 0 ≤ s0 ∧ s0 ≤ 1900) (b1 : 0 ≤ s1 ∧ s1 ≤ 950) (b2 : 0 ≤ s2 ∧ s2 ≤ 1900) (b3 : 0 ≤ s3 ∧ s3 ≤ 1900) (b4 : 0 ≤ s4 ∧ s4 ≤ 1900) (b5 : 0 ≤ s5 ∧ s5 ≤ 7) (b6 : 0 ≤ s6 ∧ s6 ≤ 7) (b7 : 0 ≤ s7 ∧ s7 ≤ 63) (b9 : (-9223372036854775808) ≤ s9 ∧ s9 ≤ 9223372036854775807) (b10 : (-9223372036854775808) ≤ s10 ∧ s10 ≤ 9223372036854775807) (m0 : HP 53 (4096 * s0 + s1) (256 * s2 + 130) M) (m1 : HP 47 (s2) (s6 + 393216) M) (m2 : HP 45 (s2) (s3) M) (m3 : HP 46 (s2) (s4) M) (m4 : HP 79 (16 * s0 + 1) (s5) M) (m5 : HP 94 (4096 * s0 + s1) (s8) M) (m6 : HP 117 (s7 + 4294967296 * s8) (s9) M) (m7 : HP 110 (18446744073709551616 * s9 + 1) (s10) M) (f0 : 0 ≤ (s5 + 8 * s6 + (-1) * s7)) (f1 : 0 ≤ ((-1) * s5 + (-8) * s6 + s7)) (hG : gI M) : (HP 53 (4096 * s0 + s1) (256 * s4 + 131) M ∧ HP 79 (16 * s0 + 2) (s6) M ∧ 0 ≤ ((-1) * s10) ∧ 0 ≤ (s10) ∧ True) ∨ (HP 66 (s3) (3 : Int) M ∧ 0 ≤ ((-1) * s10 + 1) ∧ 0 ≤ (s10 - 1) ∧ True) := by
  have ht := t8_bit (y := s7.toNat) (m := s8) (o := s9) (by omega) m6 (by omega) m7 (by omega)
  obtain ⟨S, hS, hb⟩ := Eq.mp hp_94 m5
  have hb := hb s7.toNat (by omega)
  have h01 := qb8_01 s8 s7.toNat
  have hc : ∀ s : Nat × pM, qat (tm M) (4096 * s0 + s1) s → tK (tm M) (qps (tm M) s.1 2) = (s6 + 393216) → qck (tm M) s.1 s.2 8 2 = qtd s10 := by
    intro s hs e
    have es := qat_u hS hs
    have hp : s0.toNat = s.1 := by have := qat_p (P := s0) (l := s1) hs ⟨by omega, by omega, by omega⟩; omega
    have e1 := q79 (P := s0) (i := 1) m4 ⟨by omega, by decide⟩ (by omega)
    rw [hp] at e1
    have ev : qvl (tm M) s.1 2 = s6 := by unfold qvl; omega
    show qcN 0 7 (qtd (s.2 17 (qvl (tm M) s.1 1 + 8 * qvl (tm M) s.1 2).toNat)) (tK (tm M) (qps (tm M) s.1 2)) = _
    rw [e, qcN_x (by omega) (by omega), ev, ← e1, show (s5 + 8 * s6).toNat = s7.toNat by omega, es, ← hb, ← ht]
  rcases h01 with h0 | h0
  · exact Or.inl ⟨r_ex (K := 8) (j := 1) m0 m1 m3 ⟨by omega, by omega, by decide⟩ (by omega) (by decide) (fun s hs hE e => (hc s hs e).trans (qtd_0 (by omega))), r_va (P := s0) (l := s1) (K := 8) (j := 1) m0 m1 ⟨by omega, by omega, by omega⟩ ⟨by omega, by omega, by decide⟩ (by omega) (by omega), by omega, by omega, trivial⟩
  · exact Or.inr ⟨r_fl (K := 8) (j := 1) m0 m1 m2 ⟨by omega, by omega, by decide⟩ (fun s hs hE e => (hc s hs e).trans (qtd_1 (by omega))), by omega, by omega, trivial⟩
theorem rul_378 : Rul r_378 := by
  refine ⟨fun _ ρ M hm hB hF hG => ?_, fun gi gv hg => (by cases hg)⟩
  have H := cr_378 M (ρ 0) (ρ 1) (ρ 2) (ρ 3) (ρ 4) (ρ 5) (ρ 6) (ρ 7) (ρ 8) (ρ 9) (ρ 10) (hB _ List.mem_cons_self) (hB _ (List.mem_cons_of_mem _ List.mem_cons_self)) (hB _ (List.mem_cons_of_mem _ (List.mem_cons_of_mem _ List.mem_cons_self))) (hB _ (List.mem_cons_of_mem _ (List.mem_cons_of_mem _ (List.mem_cons_of_mem _ List.mem_cons_self)))) (hB _ (List.mem_cons_of_mem _ (List.mem_cons_of_mem _ (List.mem_cons_of_mem _ (List.mem_cons_of_mem _ List.mem_cons_self))))) (hB _ (List.mem_cons_of_mem _ (List.mem_cons_of_mem _ (List.mem_cons_of_mem _ (List.mem_cons_of_mem _ (List.mem_cons_of_mem _ List.mem_cons_self)))))) (hB _ (List.mem_cons_of_mem _ (List.mem_cons_of_mem _ (List.mem_cons_of_mem _ (List.mem_cons_of_mem _ (List.mem_cons_of_mem _ (List.mem_cons_of_mem _ List.mem_cons_self))))))) (hB _ (List.mem_cons_of_mem _ (List.mem_cons_of_mem _ (List.mem_cons_of_mem _ (List.mem_cons_of_mem _ (List.mem_cons_of_mem _ (List.mem_cons_of_mem _ (List.mem_cons_of_mem _ List.mem_cons_self)))))))) (hB _ (List.mem_cons_of_mem _ (List.mem_cons_of_mem _ (List.mem_cons_of_mem _ (List.mem_cons_of_mem _ (List.mem_cons_of_mem _ (List.mem_cons_of_mem _ (List.mem_cons_of_mem _ (List.mem_cons_of_mem _ List.mem_cons_self))))))))) (hB _ (List.mem_cons_of_mem _ (List.mem_cons_of_mem _ (List.mem_cons_of_mem _ (List.mem_cons_of_mem _ (List.mem_cons_of_mem _ (List.mem_cons_of_mem _ (List.mem_cons_of_mem _ (List.mem_cons_of_mem _ (List.mem_cons_of_mem _ List.mem_cons_self)))))))))) (cvp 53 (x' := (4096 * (ρ 0) + (ρ 1))) (y' := (256 * (ρ 2) + 130)) (by show 0 + (4096 * ρ 0 + (1 * ρ 1 + 0)) = _; omega) (by show 130 + (256 * ρ 2 + 0) = _; omega) (hm _ List.mem_cons_self)) (cvp 47 (x' := ((ρ 2))) (y' := ((ρ 6) + 393216)) (by show 0 + (1 * ρ 2 + 0) = _; omega) (by show 393216 + (1 * ρ 6 + 0) = _; omega) (hm _ (List.mem_cons_of_mem _ List.mem_cons_self))) (cvp 45 (x' := ((ρ 2))) (y' := ((ρ 3))) (by show 0 + (1 * ρ 2 + 0) = _; omega) (by show 0 + (1 * ρ 3 + 0) = _; omega) (hm _ (List.mem_cons_of_mem _ (List.mem_cons_of_mem _ List.mem_cons_self)))) (cvp 46 (x' := ((ρ 2))) (y' := ((ρ 4))) (by show 0 + (1 * ρ 2 + 0) = _; omega) (by show 0 + (1 * ρ 4 + 0) = _; omega) (hm _ (List.mem_cons_of_mem _ (List.mem_cons_of_mem _ (List.mem_cons_of_mem _ List.mem_cons_self))))) (cvp 79 (x' := (16 * (ρ 0) + 1)) (y' := ((ρ 5))) (by show 1 + (16 * ρ 0 + 0) = _; omega) (by show 0 + (1 * ρ 5 + 0) = _; omega) (hm _ (List.mem_cons_of_mem _ (List.mem_cons_of_mem _ (List.mem_cons_of_mem _ (List.mem_cons_of_mem _ List.mem_cons_self)))))) (cvp 94 (x' := (4096 * (ρ 0) + (ρ 1))) (y' := ((ρ 8))) (by show 0 + (4096 * ρ 0 + (1 * ρ 1 + 0)) = _; omega) (by show 0 + (1 * ρ 8 + 0) = _; omega) (hm _ (List.mem_cons_of_mem _ (List.mem_cons_of_mem _ (List.mem_cons_of_mem _ (List.mem_cons_of_mem _ (List.mem_cons_of_mem _ List.mem_cons_self))))))) (cvp 117 (x' := ((ρ 7) + 4294967296 * (ρ 8))) (y' := ((ρ 9))) (by show 0 + (1 * ρ 7 + (4294967296 * ρ 8 + 0)) = _; omega) (by show 0 + (1 * ρ 9 + 0) = _; omega) (hm _ (List.mem_cons_of_mem _ (List.mem_cons_of_mem _ (List.mem_cons_of_mem _ (List.mem_cons_of_mem _ (List.mem_cons_of_mem _ (List.mem_cons_of_mem _ List.mem_cons_self)))))))) (cvp 110 (x' := (18446744073709551616 * (ρ 9) + 1)) (y' := ((ρ 10))) (by show 1 + (18446744073709551616 * ρ 9 + 0) = _; omega) (by show 0 + (1 * ρ 10 + 0) = _; omega) (hm _ (List.mem_cons_of_mem _ (List.mem_cons_of_mem _ (List.mem_cons_of_mem _ (List.mem_cons_of_mem _ (List.mem_cons_of_mem _ (List.mem_cons_of_mem _ (List.mem_cons_of_mem _ List.mem_cons_self))))))))) (by have h := hF _ List.mem_cons_self; have h : 0 ≤ 0 + (1 * ρ 5 + (8 * ρ 6 + ((-1) * ρ 7 + 0))) := h; omega) (by have h := hF _ (List.mem_cons_of_mem _ List.mem_cons_self); have h : 0 ≤ 0 + ((-1) * ρ 5 + ((-8) * ρ 6 + (1 * ρ 7 + 0))) := h; omega) hG
  rcases H with H | H
  · skip
    obtain ⟨k0, k1, f0, f1, -⟩ := H
    exact ⟨_, List.mem_cons_self, ρ, fun _ _ => rfl, (okM_c (pvp 53 (by show 0 + (4096 * ρ 0 + (1 * ρ 1 + 0)) = _; omega) (by show 131 + (256 * ρ 4 + 0) = _; omega) k0) (okM_c (pvp 79 (by show 2 + (16 * ρ 0 + 0) = _; omega) (by show 0 + (1 * ρ 6 + 0) = _; omega) k1) okM_n)), okB_n, (okF_c (by show 0 ≤ 0 + ((-1) * ρ 10 + 0); omega) (okF_c (by show 0 ≤ 0 + (1 * ρ 10 + 0); omega) okF_n))⟩
  · skip
    obtain ⟨k0, f0, f1, -⟩ := H
    exact ⟨_, (List.mem_cons_of_mem _ List.mem_cons_self), ρ, fun _ _ => rfl, (okM_c (pvp 66 (by show 0 + (1 * ρ 3 + 0) = _; omega) (by show 3 + 0 = _; omega) k0) okM_n), okB_n, (okF_c (by show 0 ≤ 1 + ((-1) * ρ 10 + 0); omega) (okF_c (by show 0 ≤ (-1) + (1 * ρ 10 + 0); omega) okF_n))⟩
-- fkw
theorem cr_379 (M : pM) (s0 s1 s2 s3 s4 s5 s6 s7 s8 : Int) (b0 : 0 ≤ s0 ∧ s0 ≤ 1900) (b1 : 0 ≤ s1 ∧ s1 ≤ 950) (b2 : 0 ≤ s2 ∧ s2 ≤ 1900) (b3 : 0 ≤ s3 ∧ s3 ≤ 7) (b4 : 0 ≤ s4 ∧ s4 ≤ 7) (b5 : 0 ≤ s5 ∧ s5 ≤ 63) (b7 : (-9223372036854775808) ≤ s7 ∧ s7 ≤ 9223372036854775807) (b8 : (-9223372036854775808) ≤ s8 ∧ s8 ≤ 9223372036854775807) (m0 : HP 94 (4096 * s0 + s1) (s6) M) (m1 : HP 53 (4096 * s0 + s1) (256 * s2 + 131) M) (m2 : HP 79 (16 * s0 + 1) (s3) M) (m3 : HP 79 (16 * s0 + 2) (s4) M) (m4 : HP 116 (s5 + 4294967296) (s7) M) (m5 : HP 111 (18446744073709551616 * s6 + s7) (s8) M) (f0 : 0 ≤ (s3 + 8 * s4 + (-1) * s5)) (f1 : 0 ≤ ((-1) * s3 + (-8) * s4 + s5)) (hG : gI M) : (HP 95 (4096 * s0 + s1) (s8) M ∧ True) := by
  obtain ⟨s, hs, hb⟩ := Eq.mp hp_94 m0
  obtain ⟨t, ht, hE⟩ := ex_o (K := 8) (j := 2) (a := s2) (Eq.mp hp_53 m1) ⟨by omega, by omega, by decide, by decide⟩
  have e2 := qat_u hs ht
  subst e2
  have hp : s0.toNat = t.1 := by have := qat_p (P := s0) (l := s1) hs ⟨by omega, by omega, by omega⟩; omega
  have hv := q79 (P := s0) (i := 1) m2 ⟨by omega, by decide⟩ (by omega)
  have hv2 := q79 (P := s0) (i := 2) m3 ⟨by omega, by decide⟩ (by omega)
  rw [hp] at hv hv2
  refine ⟨Eq.mpr hp_95 ⟨t, 8, hs, ⟨hE.2.2.1, hE.2.2.2.1⟩, fun i hi => ?_⟩, trivial⟩
  rw [t8_set (y := s5.toNat) (m := s6) (o := s7) (by omega) hi m4 (by omega) m5 (by omega) (by unfold r64; omega)]
  show _ = if (i : Int) = qvl (tm M) t.1 1 + 8 * qvl (tm M) t.1 2 then 1 else t.2 17 i
  by_cases e : i = s5.toNat
  · rw [if_pos e, if_pos (by omega)]
  · rw [if_neg e, if_neg (by omega)]; exact hb i hi
theorem rul_379 : Rul r_379 := by
  refine ⟨fun _ ρ M hm hB hF hG => ?_, fun gi gv hg => (by cases hg)⟩
  have H := cr_379 M (ρ 0) (ρ 1) (ρ 2) (ρ 3) (ρ 4) (ρ 5) (ρ 6) (ρ 7) (ρ 8) (hB _ List.mem_cons_self) (hB _ (List.mem_cons_of_mem _ List.mem_cons_self)) (hB _ (List.mem_cons_of_mem _ (List.mem_cons_of_mem _ List.mem_cons_self))) (hB _ (List.mem_cons_of_mem _ (List.mem_cons_of_mem _ (List.mem_cons_of_mem _ List.mem_cons_self)))) (hB _ (List.mem_cons_of_mem _ (List.mem_cons_of_mem _ (List.mem_cons_of_mem _ (List.mem_cons_of_mem _ List.mem_cons_self))))) (hB _ (List.mem_cons_of_mem _ (List.mem_cons_of_mem _ (List.mem_cons_of_mem _ (List.mem_cons_of_mem _ (List.mem_cons_of_mem _ List.mem_cons_self)))))) (hB _ (List.mem_cons_of_mem _ (List.mem_cons_of_mem _ (List.mem_cons_of_mem _ (List.mem_cons_of_mem _ (List.mem_cons_of_mem _ (List.mem_cons_of_mem _ List.mem_cons_self))))))) (hB _ (List.mem_cons_of_mem _ (List.mem_cons_of_mem _ (List.mem_cons_of_mem _ (List.mem_cons_of_mem _ (List.mem_cons_of_mem _ (List.mem_cons_of_mem _ (List.mem_cons_of_mem _ List.mem_cons_self)))))))) (cvp 94 (x' := (4096 * (ρ 0) + (ρ 1))) (y' := ((ρ 6))) (by show 0 + (4096 * ρ 0 + (1 * ρ 1 + 0)) = _; omega) (by show 0 + (1 * ρ 6 + 0) = _; omega) (hm _ List.mem_cons_self)) (cvp 53 (x' := (4096 * (ρ 0) + (ρ 1))) (y' := (256 * (ρ 2) + 131)) (by show 0 + (4096 * ρ 0 + (1 * ρ 1 + 0)) = _; omega) (by show 131 + (256 * ρ 2 + 0) = _; omega) (hm _ (List.mem_cons_of_mem _ List.mem_cons_self))) (cvp 79 (x' := (16 * (ρ 0) + 1)) (y' := ((ρ 3))) (by show 1 + (16 * ρ 0 + 0) = _; omega) (by show 0 + (1 * ρ 3 + 0) = _; omega) (hm _ (List.mem_cons_of_mem _ (List.mem_cons_of_mem _ List.mem_cons_self)))) (cvp 79 (x' := (16 * (ρ 0) + 2)) (y' := ((ρ 4))) (by show 2 + (16 * ρ 0 + 0) = _; omega) (by show 0 + (1 * ρ 4 + 0) = _; omega) (hm _ (List.mem_cons_of_mem _ (List.mem_cons_of_mem _ (List.mem_cons_of_mem _ List.mem_cons_self))))) (cvp 116 (x' := ((ρ 5) + 4294967296)) (y' := ((ρ 7))) (by show 4294967296 + (1 * ρ 5 + 0) = _; omega) (by show 0 + (1 * ρ 7 + 0) = _; omega) (hm _ (List.mem_cons_of_mem _ (List.mem_cons_of_mem _ (List.mem_cons_of_mem _ (List.mem_cons_of_mem _ List.mem_cons_self)))))) (cvp 111 (x' := (18446744073709551616 * (ρ 6) + (ρ 7))) (y' := ((ρ 8))) (by show 0 + (18446744073709551616 * ρ 6 + (1 * ρ 7 + 0)) = _; omega) (by show 0 + (1 * ρ 8 + 0) = _; omega) (hm _ (List.mem_cons_of_mem _ (List.mem_cons_of_mem _ (List.mem_cons_of_mem _ (List.mem_cons_of_mem _ (List.mem_cons_of_mem _ List.mem_cons_self))))))) (by have h := hF _ List.mem_cons_self; have h : 0 ≤ 0 + (1 * ρ 3 + (8 * ρ 4 + ((-1) * ρ 5 + 0))) := h; omega) (by have h := hF _ (List.mem_cons_of_mem _ List.mem_cons_self); have h : 0 ≤ 0 + ((-1) * ρ 3 + ((-8) * ρ 4 + (1 * ρ 5 + 0))) := h; omega) hG
  obtain ⟨k0, -⟩ := H
  exact ⟨_, List.mem_cons_self, ρ, fun _ _ => rfl, (okM_c (pvp 95 (by show 0 + (4096 * ρ 0 + (1 * ρ 1 + 0)) = _; omega) (by show 0 + (1 * ρ 8 + 0) = _; omega) k0) okM_n), okB_n, okF_n⟩
-- rkid1
theorem cr_380 (M : pM) (s0 s1 s2 s3 : Int) (b0 : 0 ≤ s0 ∧ s0 ≤ 1900) (b1 : 0 ≤ s1 ∧ s1 ≤ 950) (b2 : 0 ≤ s2 ∧ s2 ≤ 1900) (b3 : (-2147483648) ≤ s3 ∧ s3 ≤ 2147483647) (m0 : HP 71 (4096 * s0 + s1) (s3) M) (m1 : HP 53 (4096 * s0 + s1) (256 * s2 + 24) M) (hG : gI M) : (HP 73 (4096 * s0 + s1) (s3) M ∧ True) := by
  exact ⟨Eq.mpr hp_73 (k_mid (K := 1) (Eq.mp hp_71 m0) (ex_o (K := 1) (j := 7) (a := s2) (Eq.mp hp_53 m1) ⟨by omega, by omega, by decide, by decide⟩) (fun _ _ => rfl)), trivial⟩
theorem rul_380 : Rul r_380 := by
  refine ⟨fun _ ρ M hm hB hF hG => ?_, fun gi gv hg => (by cases hg)⟩
  have H := cr_380 M (ρ 0) (ρ 1) (ρ 2) (ρ 3) (hB _ List.mem_cons_self) (hB _ (List.mem_cons_of_mem _ List.mem_cons_self)) (hB _ (List.mem_cons_of_mem _ (List.mem_cons_of_mem _ List.mem_cons_self))) (hB _ (List.mem_cons_of_mem _ (List.mem_cons_of_mem _ (List.mem_cons_of_mem _ List.mem_cons_self)))) (cvp 71 (x' := (4096 * (ρ 0) + (ρ 1))) (y' := ((ρ 3))) (by show 0 + (4096 * ρ 0 + (1 * ρ 1 + 0)) = _; omega) (by show 0 + (1 * ρ 3 + 0) = _; omega) (hm _ List.mem_cons_self)) (cvp 53 (x' := (4096 * (ρ 0) + (ρ 1))) (y' := (256 * (ρ 2) + 24)) (by show 0 + (4096 * ρ 0 + (1 * ρ 1 + 0)) = _; omega) (by show 24 + (256 * ρ 2 + 0) = _; omega) (hm _ (List.mem_cons_of_mem _ List.mem_cons_self))) hG
  obtain ⟨k0, -⟩ := H
  exact ⟨_, List.mem_cons_self, ρ, fun _ _ => rfl, (okM_c (pvp 73 (by show 0 + (4096 * ρ 0 + (1 * ρ 1 + 0)) = _; omega) (by show 0 + (1 * ρ 3 + 0) = _; omega) k0) okM_n), okB_n, okF_n⟩
-- rkid2
theorem cr_381 (M : pM) (s0 s1 s2 s3 : Int) (b0 : 0 ≤ s0 ∧ s0 ≤ 1900) (b1 : 0 ≤ s1 ∧ s1 ≤ 950) (b2 : 0 ≤ s2 ∧ s2 ≤ 1900) (b3 : (-2147483648) ≤ s3 ∧ s3 ≤ 2147483647) (m0 : HP 71 (4096 * s0 + s1) (s3) M) (m1 : HP 53 (4096 * s0 + s1) (256 * s2 + 36) M) (hG : gI M) : (HP 73 (4096 * s0 + s1) (s3) M ∧ True) := by
  exact ⟨Eq.mpr hp_73 (k_mid (K := 2) (Eq.mp hp_71 m0) (ex_o (K := 2) (j := 3) (a := s2) (Eq.mp hp_53 m1) ⟨by omega, by omega, by decide, by decide⟩) (fun _ _ => rfl)), trivial⟩
theorem rul_381 : Rul r_381 := by
  refine ⟨fun _ ρ M hm hB hF hG => ?_, fun gi gv hg => (by cases hg)⟩
  have H := cr_381 M (ρ 0) (ρ 1) (ρ 2) (ρ 3) (hB _ List.mem_cons_self) (hB _ (List.mem_cons_of_mem _ List.mem_cons_self)) (hB _ (List.mem_cons_of_mem _ (List.mem_cons_of_mem _ List.mem_cons_self))) (hB _ (List.mem_cons_of_mem _ (List.mem_cons_of_mem _ (List.mem_cons_of_mem _ List.mem_cons_self)))) (cvp 71 (x' := (4096 * (ρ 0) + (ρ 1))) (y' := ((ρ 3))) (by show 0 + (4096 * ρ 0 + (1 * ρ 1 + 0)) = _; omega) (by show 0 + (1 * ρ 3 + 0) = _; omega) (hm _ List.mem_cons_self)) (cvp 53 (x' := (4096 * (ρ 0) + (ρ 1))) (y' := (256 * (ρ 2) + 36)) (by show 0 + (4096 * ρ 0 + (1 * ρ 1 + 0)) = _; omega) (by show 36 + (256 * ρ 2 + 0) = _; omega) (hm _ (List.mem_cons_of_mem _ List.mem_cons_self))) hG
  obtain ⟨k0, -⟩ := H
  exact ⟨_, List.mem_cons_self, ρ, fun _ _ => rfl, (okM_c (pvp 73 (by show 0 + (4096 * ρ 0 + (1 * ρ 1 + 0)) = _; omega) (by show 0 + (1 * ρ 3 + 0) = _; omega) k0) okM_n), okB_n, okF_n⟩
-- rkid3
theorem cr_382 (M : pM) (s0 s1 s2 s3 : Int) (b0 : 0 ≤ s0 ∧ s0 ≤ 1900) (b1 : 0 ≤ s1 ∧ s1 ≤ 950) (b2 : 0 ≤ s2 ∧ s2 ≤ 1900) (b3 : (-2147483648) ≤ s3 ∧ s3 ≤ 2147483647) (m0 : HP 71 (4096 * s0 + s1) (s3) M) (m1 : HP 53 (4096 * s0 + s1) (256 * s2 + 51) M) (hG : gI M) : (HP 73 (4096 * s0 + s1) (s3) M ∧ True) := by
  exact ⟨Eq.mpr hp_73 (k_mid (K := 3) (Eq.mp hp_71 m0) (ex_o (K := 3) (j := 2) (a := s2) (Eq.mp hp_53 m1) ⟨by omega, by omega, by decide, by decide⟩) (fun _ _ => rfl)), trivial⟩
theorem rul_382 : Rul r_382 := by
  refine ⟨fun _ ρ M hm hB hF hG => ?_, fun gi gv hg => (by cases hg)⟩
  have H := cr_382 M (ρ 0) (ρ 1) (ρ 2) (ρ 3) (hB _ List.mem_cons_self) (hB _ (List.mem_cons_of_mem _ List.mem_cons_self)) (hB _ (List.mem_cons_of_mem _ (List.mem_cons_of_mem _ List.mem_cons_self))) (hB _ (List.mem_cons_of_mem _ (List.mem_cons_of_mem _ (List.mem_cons_of_mem _ List.mem_cons_self)))) (cvp 71 (x' := (4096 * (ρ 0) + (ρ 1))) (y' := ((ρ 3))) (by show 0 + (4096 * ρ 0 + (1 * ρ 1 + 0)) = _; omega) (by show 0 + (1 * ρ 3 + 0) = _; omega) (hm _ List.mem_cons_self)) (cvp 53 (x' := (4096 * (ρ 0) + (ρ 1))) (y' := (256 * (ρ 2) + 51)) (by show 0 + (4096 * ρ 0 + (1 * ρ 1 + 0)) = _; omega) (by show 51 + (256 * ρ 2 + 0) = _; omega) (hm _ (List.mem_cons_of_mem _ List.mem_cons_self))) hG
  obtain ⟨k0, -⟩ := H
  exact ⟨_, List.mem_cons_self, ρ, fun _ _ => rfl, (okM_c (pvp 73 (by show 0 + (4096 * ρ 0 + (1 * ρ 1 + 0)) = _; omega) (by show 0 + (1 * ρ 3 + 0) = _; omega) k0) okM_n), okB_n, okF_n⟩
-- rkid4
theorem cr_383 (M : pM) (s0 s1 s2 s3 : Int) (b0 : 0 ≤ s0 ∧ s0 ≤ 1900) (b1 : 0 ≤ s1 ∧ s1 ≤ 950) (b2 : 0 ≤ s2 ∧ s2 ≤ 1900) (b3 : (-2147483648) ≤ s3 ∧ s3 ≤ 2147483647) (m0 : HP 71 (4096 * s0 + s1) (s3) M) (m1 : HP 53 (4096 * s0 + s1) (256 * s2 + 73) M) (hG : gI M) : (HP 73 (4096 * s0 + s1) (s3) M ∧ True) := by
  exact ⟨Eq.mpr hp_73 (k_mid (K := 4) (Eq.mp hp_71 m0) (ex_o (K := 4) (j := 8) (a := s2) (Eq.mp hp_53 m1) ⟨by omega, by omega, by decide, by decide⟩) (fun _ _ => rfl)), trivial⟩
theorem rul_383 : Rul r_383 := by
  refine ⟨fun _ ρ M hm hB hF hG => ?_, fun gi gv hg => (by cases hg)⟩
  have H := cr_383 M (ρ 0) (ρ 1) (ρ 2) (ρ 3) (hB _ List.mem_cons_self) (hB _ (List.mem_cons_of_mem _ List.mem_cons_self)) (hB _ (List.mem_cons_of_mem _ (List.mem_cons_of_mem _ List.mem_cons_self))) (hB _ (List.mem_cons_of_mem _ (List.mem_cons_of_mem _ (List.mem_cons_of_mem _ List.mem_cons_self)))) (cvp 71 (x' := (4096 * (ρ 0) + (ρ 1))) (y' := ((ρ 3))) (by show 0 + (4096 * ρ 0 + (1 * ρ 1 + 0)) = _; omega) (by show 0 + (1 * ρ 3 + 0) = _; omega) (hm _ List.mem_cons_self)) (cvp 53 (x' := (4096 * (ρ 0) + (ρ 1))) (y' := (256 * (ρ 2) + 73)) (by show 0 + (4096 * ρ 0 + (1 * ρ 1 + 0)) = _; omega) (by show 73 + (256 * ρ 2 + 0) = _; omega) (hm _ (List.mem_cons_of_mem _ List.mem_cons_self))) hG
  obtain ⟨k0, -⟩ := H
  exact ⟨_, List.mem_cons_self, ρ, fun _ _ => rfl, (okM_c (pvp 73 (by show 0 + (4096 * ρ 0 + (1 * ρ 1 + 0)) = _; omega) (by show 0 + (1 * ρ 3 + 0) = _; omega) k0) okM_n), okB_n, okF_n⟩
-- rkid8
theorem cr_384 (M : pM) (s0 s1 s2 s3 : Int) (b0 : 0 ≤ s0 ∧ s0 ≤ 1900) (b1 : 0 ≤ s1 ∧ s1 ≤ 950) (b2 : 0 ≤ s2 ∧ s2 ≤ 1900) (b3 : (-2147483648) ≤ s3 ∧ s3 ≤ 2147483647) (m0 : HP 71 (4096 * s0 + s1) (s3) M) (m1 : HP 53 (4096 * s0 + s1) (256 * s2 + 131) M) (hG : gI M) : (HP 73 (4096 * s0 + s1) (s3) M ∧ True) := by
  exact ⟨Eq.mpr hp_73 (k_mid (K := 8) (Eq.mp hp_71 m0) (ex_o (K := 8) (j := 2) (a := s2) (Eq.mp hp_53 m1) ⟨by omega, by omega, by decide, by decide⟩) (fun _ _ => rfl)), trivial⟩
theorem rul_384 : Rul r_384 := by
  refine ⟨fun _ ρ M hm hB hF hG => ?_, fun gi gv hg => (by cases hg)⟩
  have H := cr_384 M (ρ 0) (ρ 1) (ρ 2) (ρ 3) (hB _ List.mem_cons_self) (hB _ (List.mem_cons_of_mem _ List.mem_cons_self)) (hB _ (List.mem_cons_of_mem _ (List.mem_cons_of_mem _ List.mem_cons_self))) (hB _ (List.mem_cons_of_mem _ (List.mem_cons_of_mem _ (List.mem_cons_of_mem _ List.mem_cons_self)))) (cvp 71 (x' := (4096 * (ρ 0) + (ρ 1))) (y' := ((ρ 3))) (by show 0 + (4096 * ρ 0 + (1 * ρ 1 + 0)) = _; omega) (by show 0 + (1 * ρ 3 + 0) = _; omega) (hm _ List.mem_cons_self)) (cvp 53 (x' := (4096 * (ρ 0) + (ρ 1))) (y' := (256 * (ρ 2) + 131)) (by show 0 + (4096 * ρ 0 + (1 * ρ 1 + 0)) = _; omega) (by show 131 + (256 * ρ 2 + 0) = _; omega) (hm _ (List.mem_cons_of_mem _ List.mem_cons_self))) hG
  obtain ⟨k0, -⟩ := H
  exact ⟨_, List.mem_cons_self, ρ, fun _ _ => rfl, (okM_c (pvp 73 (by show 0 + (4096 * ρ 0 + (1 * ρ 1 + 0)) = _; omega) (by show 0 + (1 * ρ 3 + 0) = _; omega) k0) okM_n), okB_n, okF_n⟩
-- rkid9
theorem cr_385 (M : pM) (s0 s1 s2 s3 : Int) (b0 : 0 ≤ s0 ∧ s0 ≤ 1900) (b1 : 0 ≤ s1 ∧ s1 ≤ 950) (b2 : 0 ≤ s2 ∧ s2 ≤ 1900) (b3 : (-2147483648) ≤ s3 ∧ s3 ≤ 2147483647) (m0 : HP 71 (4096 * s0 + s1) (s3) M) (m1 : HP 53 (4096 * s0 + s1) (256 * s2 + 150) M) (hG : gI M) : (HP 73 (4096 * s0 + s1) (s3) M ∧ True) := by
  exact ⟨Eq.mpr hp_73 (k_mid (K := 9) (Eq.mp hp_71 m0) (ex_o (K := 9) (j := 5) (a := s2) (Eq.mp hp_53 m1) ⟨by omega, by omega, by decide, by decide⟩) (fun _ _ => rfl)), trivial⟩
theorem rul_385 : Rul r_385 := by
  refine ⟨fun _ ρ M hm hB hF hG => ?_, fun gi gv hg => (by cases hg)⟩
  have H := cr_385 M (ρ 0) (ρ 1) (ρ 2) (ρ 3) (hB _ List.mem_cons_self) (hB _ (List.mem_cons_of_mem _ List.mem_cons_self)) (hB _ (List.mem_cons_of_mem _ (List.mem_cons_of_mem _ List.mem_cons_self))) (hB _ (List.mem_cons_of_mem _ (List.mem_cons_of_mem _ (List.mem_cons_of_mem _ List.mem_cons_self)))) (cvp 71 (x' := (4096 * (ρ 0) + (ρ 1))) (y' := ((ρ 3))) (by show 0 + (4096 * ρ 0 + (1 * ρ 1 + 0)) = _; omega) (by show 0 + (1 * ρ 3 + 0) = _; omega) (hm _ List.mem_cons_self)) (cvp 53 (x' := (4096 * (ρ 0) + (ρ 1))) (y' := (256 * (ρ 2) + 150)) (by show 0 + (4096 * ρ 0 + (1 * ρ 1 + 0)) = _; omega) (by show 150 + (256 * ρ 2 + 0) = _; omega) (hm _ (List.mem_cons_of_mem _ List.mem_cons_self))) hG
  obtain ⟨k0, -⟩ := H
  exact ⟨_, List.mem_cons_self, ρ, fun _ _ => rfl, (okM_c (pvp 73 (by show 0 + (4096 * ρ 0 + (1 * ρ 1 + 0)) = _; omega) (by show 0 + (1 * ρ 3 + 0) = _; omega) k0) okM_n), okB_n, okF_n⟩
-- rkid10
theorem cr_386 (M : pM) (s0 s1 s2 s3 : Int) (b0 : 0 ≤ s0 ∧ s0 ≤ 1900) (b1 : 0 ≤ s1 ∧ s1 ≤ 950) (b2 : 0 ≤ s2 ∧ s2 ≤ 1900) (b3 : (-2147483648) ≤ s3 ∧ s3 ≤ 2147483647) (m0 : HP 71 (4096 * s0 + s1) (s3) M) (m1 : HP 53 (4096 * s0 + s1) (256 * s2 + 169) M) (hG : gI M) : (HP 73 (4096 * s0 + s1) (s3) M ∧ True) := by
  exact ⟨Eq.mpr hp_73 (k_mid (K := 10) (Eq.mp hp_71 m0) (ex_o (K := 10) (j := 8) (a := s2) (Eq.mp hp_53 m1) ⟨by omega, by omega, by decide, by decide⟩) (fun _ _ => rfl)), trivial⟩
theorem rul_386 : Rul r_386 := by
  refine ⟨fun _ ρ M hm hB hF hG => ?_, fun gi gv hg => (by cases hg)⟩
  have H := cr_386 M (ρ 0) (ρ 1) (ρ 2) (ρ 3) (hB _ List.mem_cons_self) (hB _ (List.mem_cons_of_mem _ List.mem_cons_self)) (hB _ (List.mem_cons_of_mem _ (List.mem_cons_of_mem _ List.mem_cons_self))) (hB _ (List.mem_cons_of_mem _ (List.mem_cons_of_mem _ (List.mem_cons_of_mem _ List.mem_cons_self)))) (cvp 71 (x' := (4096 * (ρ 0) + (ρ 1))) (y' := ((ρ 3))) (by show 0 + (4096 * ρ 0 + (1 * ρ 1 + 0)) = _; omega) (by show 0 + (1 * ρ 3 + 0) = _; omega) (hm _ List.mem_cons_self)) (cvp 53 (x' := (4096 * (ρ 0) + (ρ 1))) (y' := (256 * (ρ 2) + 169)) (by show 0 + (4096 * ρ 0 + (1 * ρ 1 + 0)) = _; omega) (by show 169 + (256 * ρ 2 + 0) = _; omega) (hm _ (List.mem_cons_of_mem _ List.mem_cons_self))) hG
  obtain ⟨k0, -⟩ := H
  exact ⟨_, List.mem_cons_self, ρ, fun _ _ => rfl, (okM_c (pvp 73 (by show 0 + (4096 * ρ 0 + (1 * ρ 1 + 0)) = _; omega) (by show 0 + (1 * ρ 3 + 0) = _; omega) k0) okM_n), okB_n, okF_n⟩
-- lkid0
theorem cr_387 (M : pM) (s0 s1 s2 s3 : Int) (b0 : 0 ≤ s0 ∧ s0 ≤ 1900) (b1 : 0 ≤ s1 ∧ s1 ≤ 950) (b2 : 0 ≤ s2 ∧ s2 ≤ 1900) (b3 : (-2147483648) ≤ s3 ∧ s3 ≤ 2147483647) (m0 : HP 72 (4096 * s0 + s1) (s3) M) (m1 : HP 53 (4096 * s0 + s1) (256 * s2 + 3) M) (hG : gI M) : (HP 74 (4096 * s0 + s1) (s3) M ∧ True) := by
  exact ⟨Eq.mpr hp_74 (k_mid (K := 0) (Eq.mp hp_72 m0) (ex_o (K := 0) (j := 2) (a := s2) (Eq.mp hp_53 m1) ⟨by omega, by omega, by decide, by decide⟩) (fun _ _ => rfl)), trivial⟩
theorem rul_387 : Rul r_387 := by
  refine ⟨fun _ ρ M hm hB hF hG => ?_, fun gi gv hg => (by cases hg)⟩
  have H := cr_387 M (ρ 0) (ρ 1) (ρ 2) (ρ 3) (hB _ List.mem_cons_self) (hB _ (List.mem_cons_of_mem _ List.mem_cons_self)) (hB _ (List.mem_cons_of_mem _ (List.mem_cons_of_mem _ List.mem_cons_self))) (hB _ (List.mem_cons_of_mem _ (List.mem_cons_of_mem _ (List.mem_cons_of_mem _ List.mem_cons_self)))) (cvp 72 (x' := (4096 * (ρ 0) + (ρ 1))) (y' := ((ρ 3))) (by show 0 + (4096 * ρ 0 + (1 * ρ 1 + 0)) = _; omega) (by show 0 + (1 * ρ 3 + 0) = _; omega) (hm _ List.mem_cons_self)) (cvp 53 (x' := (4096 * (ρ 0) + (ρ 1))) (y' := (256 * (ρ 2) + 3)) (by show 0 + (4096 * ρ 0 + (1 * ρ 1 + 0)) = _; omega) (by show 3 + (256 * ρ 2 + 0) = _; omega) (hm _ (List.mem_cons_of_mem _ List.mem_cons_self))) hG
  obtain ⟨k0, -⟩ := H
  exact ⟨_, List.mem_cons_self, ρ, fun _ _ => rfl, (okM_c (pvp 74 (by show 0 + (4096 * ρ 0 + (1 * ρ 1 + 0)) = _; omega) (by show 0 + (1 * ρ 3 + 0) = _; omega) k0) okM_n), okB_n, okF_n⟩
-- lkid2
theorem cr_388 (M : pM) (s0 s1 s2 s3 : Int) (b0 : 0 ≤ s0 ∧ s0 ≤ 1900) (b1 : 0 ≤ s1 ∧ s1 ≤ 950) (b2 : 0 ≤ s2 ∧ s2 ≤ 1900) (b3 : (-2147483648) ≤ s3 ∧ s3 ≤ 2147483647) (m0 : HP 72 (4096 * s0 + s1) (s3) M) (m1 : HP 53 (4096 * s0 + s1) (256 * s2 + 36) M) (hG : gI M) : (HP 74 (4096 * s0 + s1) (s3) M ∧ True) := by
  exact ⟨Eq.mpr hp_74 (k_mid (K := 2) (Eq.mp hp_72 m0) (ex_o (K := 2) (j := 3) (a := s2) (Eq.mp hp_53 m1) ⟨by omega, by omega, by decide, by decide⟩) (fun _ _ => rfl)), trivial⟩
theorem rul_388 : Rul r_388 := by
  refine ⟨fun _ ρ M hm hB hF hG => ?_, fun gi gv hg => (by cases hg)⟩
  have H := cr_388 M (ρ 0) (ρ 1) (ρ 2) (ρ 3) (hB _ List.mem_cons_self) (hB _ (List.mem_cons_of_mem _ List.mem_cons_self)) (hB _ (List.mem_cons_of_mem _ (List.mem_cons_of_mem _ List.mem_cons_self))) (hB _ (List.mem_cons_of_mem _ (List.mem_cons_of_mem _ (List.mem_cons_of_mem _ List.mem_cons_self)))) (cvp 72 (x' := (4096 * (ρ 0) + (ρ 1))) (y' := ((ρ 3))) (by show 0 + (4096 * ρ 0 + (1 * ρ 1 + 0)) = _; omega) (by show 0 + (1 * ρ 3 + 0) = _; omega) (hm _ List.mem_cons_self)) (cvp 53 (x' := (4096 * (ρ 0) + (ρ 1))) (y' := (256 * (ρ 2) + 36)) (by show 0 + (4096 * ρ 0 + (1 * ρ 1 + 0)) = _; omega) (by show 36 + (256 * ρ 2 + 0) = _; omega) (hm _ (List.mem_cons_of_mem _ List.mem_cons_self))) hG
  obtain ⟨k0, -⟩ := H
  exact ⟨_, List.mem_cons_self, ρ, fun _ _ => rfl, (okM_c (pvp 74 (by show 0 + (4096 * ρ 0 + (1 * ρ 1 + 0)) = _; omega) (by show 0 + (1 * ρ 3 + 0) = _; omega) k0) okM_n), okB_n, okF_n⟩
-- lkid3
theorem cr_389 (M : pM) (s0 s1 s2 s3 : Int) (b0 : 0 ≤ s0 ∧ s0 ≤ 1900) (b1 : 0 ≤ s1 ∧ s1 ≤ 950) (b2 : 0 ≤ s2 ∧ s2 ≤ 1900) (b3 : (-2147483648) ≤ s3 ∧ s3 ≤ 2147483647) (m0 : HP 72 (4096 * s0 + s1) (s3) M) (m1 : HP 53 (4096 * s0 + s1) (256 * s2 + 51) M) (hG : gI M) : (HP 74 (4096 * s0 + s1) (s3) M ∧ True) := by
  exact ⟨Eq.mpr hp_74 (k_mid (K := 3) (Eq.mp hp_72 m0) (ex_o (K := 3) (j := 2) (a := s2) (Eq.mp hp_53 m1) ⟨by omega, by omega, by decide, by decide⟩) (fun _ _ => rfl)), trivial⟩
theorem rul_389 : Rul r_389 := by
  refine ⟨fun _ ρ M hm hB hF hG => ?_, fun gi gv hg => (by cases hg)⟩
  have H := cr_389 M (ρ 0) (ρ 1) (ρ 2) (ρ 3) (hB _ List.mem_cons_self) (hB _ (List.mem_cons_of_mem _ List.mem_cons_self)) (hB _ (List.mem_cons_of_mem _ (List.mem_cons_of_mem _ List.mem_cons_self))) (hB _ (List.mem_cons_of_mem _ (List.mem_cons_of_mem _ (List.mem_cons_of_mem _ List.mem_cons_self)))) (cvp 72 (x' := (4096 * (ρ 0) + (ρ 1))) (y' := ((ρ 3))) (by show 0 + (4096 * ρ 0 + (1 * ρ 1 + 0)) = _; omega) (by show 0 + (1 * ρ 3 + 0) = _; omega) (hm _ List.mem_cons_self)) (cvp 53 (x' := (4096 * (ρ 0) + (ρ 1))) (y' := (256 * (ρ 2) + 51)) (by show 0 + (4096 * ρ 0 + (1 * ρ 1 + 0)) = _; omega) (by show 51 + (256 * ρ 2 + 0) = _; omega) (hm _ (List.mem_cons_of_mem _ List.mem_cons_self))) hG
  obtain ⟨k0, -⟩ := H
  exact ⟨_, List.mem_cons_self, ρ, fun _ _ => rfl, (okM_c (pvp 74 (by show 0 + (4096 * ρ 0 + (1 * ρ 1 + 0)) = _; omega) (by show 0 + (1 * ρ 3 + 0) = _; omega) k0) okM_n), okB_n, okF_n⟩
-- lkid4
theorem cr_390 (M : pM) (s0 s1 s2 s3 : Int) (b0 : 0 ≤ s0 ∧ s0 ≤ 1900) (b1 : 0 ≤ s1 ∧ s1 ≤ 950) (b2 : 0 ≤ s2 ∧ s2 ≤ 1900) (b3 : (-2147483648) ≤ s3 ∧ s3 ≤ 2147483647) (m0 : HP 72 (4096 * s0 + s1) (s3) M) (m1 : HP 53 (4096 * s0 + s1) (256 * s2 + 73) M) (hG : gI M) : (HP 74 (4096 * s0 + s1) (s3) M ∧ True) := by
  exact ⟨Eq.mpr hp_74 (k_mid (K := 4) (Eq.mp hp_72 m0) (ex_o (K := 4) (j := 8) (a := s2) (Eq.mp hp_53 m1) ⟨by omega, by omega, by decide, by decide⟩) (fun _ _ => rfl)), trivial⟩
theorem rul_390 : Rul r_390 := by
  refine ⟨fun _ ρ M hm hB hF hG => ?_, fun gi gv hg => (by cases hg)⟩
  have H := cr_390 M (ρ 0) (ρ 1) (ρ 2) (ρ 3) (hB _ List.mem_cons_self) (hB _ (List.mem_cons_of_mem _ List.mem_cons_self)) (hB _ (List.mem_cons_of_mem _ (List.mem_cons_of_mem _ List.mem_cons_self))) (hB _ (List.mem_cons_of_mem _ (List.mem_cons_of_mem _ (List.mem_cons_of_mem _ List.mem_cons_self)))) (cvp 72 (x' := (4096 * (ρ 0) + (ρ 1))) (y' := ((ρ 3))) (by show 0 + (4096 * ρ 0 + (1 * ρ 1 + 0)) = _; omega) (by show 0 + (1 * ρ 3 + 0) = _; omega) (hm _ List.mem_cons_self)) (cvp 53 (x' := (4096 * (ρ 0) + (ρ 1))) (y' := (256 * (ρ 2) + 73)) (by show 0 + (4096 * ρ 0 + (1 * ρ 1 + 0)) = _; omega) (by show 73 + (256 * ρ 2 + 0) = _; omega) (hm _ (List.mem_cons_of_mem _ List.mem_cons_self))) hG
  obtain ⟨k0, -⟩ := H
  exact ⟨_, List.mem_cons_self, ρ, fun _ _ => rfl, (okM_c (pvp 74 (by show 0 + (4096 * ρ 0 + (1 * ρ 1 + 0)) = _; omega) (by show 0 + (1 * ρ 3 + 0) = _; omega) k0) okM_n), okB_n, okF_n⟩
-- lkid8
theorem cr_391 (M : pM) (s0 s1 s2 s3 : Int) (b0 : 0 ≤ s0 ∧ s0 ≤ 1900) (b1 : 0 ≤ s1 ∧ s1 ≤ 950) (b2 : 0 ≤ s2 ∧ s2 ≤ 1900) (b3 : (-2147483648) ≤ s3 ∧ s3 ≤ 2147483647) (m0 : HP 72 (4096 * s0 + s1) (s3) M) (m1 : HP 53 (4096 * s0 + s1) (256 * s2 + 131) M) (hG : gI M) : (HP 74 (4096 * s0 + s1) (s3) M ∧ True) := by
  exact ⟨Eq.mpr hp_74 (k_mid (K := 8) (Eq.mp hp_72 m0) (ex_o (K := 8) (j := 2) (a := s2) (Eq.mp hp_53 m1) ⟨by omega, by omega, by decide, by decide⟩) (fun _ _ => rfl)), trivial⟩
theorem rul_391 : Rul r_391 := by
  refine ⟨fun _ ρ M hm hB hF hG => ?_, fun gi gv hg => (by cases hg)⟩
  have H := cr_391 M (ρ 0) (ρ 1) (ρ 2) (ρ 3) (hB _ List.mem_cons_self) (hB _ (List.mem_cons_of_mem _ List.mem_cons_self)) (hB _ (List.mem_cons_of_mem _ (List.mem_cons_of_mem _ List.mem_cons_self))) (hB _ (List.mem_cons_of_mem _ (List.mem_cons_of_mem _ (List.mem_cons_of_mem _ List.mem_cons_self)))) (cvp 72 (x' := (4096 * (ρ 0) + (ρ 1))) (y' := ((ρ 3))) (by show 0 + (4096 * ρ 0 + (1 * ρ 1 + 0)) = _; omega) (by show 0 + (1 * ρ 3 + 0) = _; omega) (hm _ List.mem_cons_self)) (cvp 53 (x' := (4096 * (ρ 0) + (ρ 1))) (y' := (256 * (ρ 2) + 131)) (by show 0 + (4096 * ρ 0 + (1 * ρ 1 + 0)) = _; omega) (by show 131 + (256 * ρ 2 + 0) = _; omega) (hm _ (List.mem_cons_of_mem _ List.mem_cons_self))) hG
  obtain ⟨k0, -⟩ := H
  exact ⟨_, List.mem_cons_self, ρ, fun _ _ => rfl, (okM_c (pvp 74 (by show 0 + (4096 * ρ 0 + (1 * ρ 1 + 0)) = _; omega) (by show 0 + (1 * ρ 3 + 0) = _; omega) k0) okM_n), okB_n, okF_n⟩
-- lkid9
theorem cr_392 (M : pM) (s0 s1 s2 s3 : Int) (b0 : 0 ≤ s0 ∧ s0 ≤ 1900) (b1 : 0 ≤ s1 ∧ s1 ≤ 950) (b2 : 0 ≤ s2 ∧ s2 ≤ 1900) (b3 : (-2147483648) ≤ s3 ∧ s3 ≤ 2147483647) (m0 : HP 72 (4096 * s0 + s1) (s3) M) (m1 : HP 53 (4096 * s0 + s1) (256 * s2 + 150) M) (hG : gI M) : (HP 74 (4096 * s0 + s1) (s3) M ∧ True) := by
  exact ⟨Eq.mpr hp_74 (k_mid (K := 9) (Eq.mp hp_72 m0) (ex_o (K := 9) (j := 5) (a := s2) (Eq.mp hp_53 m1) ⟨by omega, by omega, by decide, by decide⟩) (fun _ _ => rfl)), trivial⟩
theorem rul_392 : Rul r_392 := by
  refine ⟨fun _ ρ M hm hB hF hG => ?_, fun gi gv hg => (by cases hg)⟩
  have H := cr_392 M (ρ 0) (ρ 1) (ρ 2) (ρ 3) (hB _ List.mem_cons_self) (hB _ (List.mem_cons_of_mem _ List.mem_cons_self)) (hB _ (List.mem_cons_of_mem _ (List.mem_cons_of_mem _ List.mem_cons_self))) (hB _ (List.mem_cons_of_mem _ (List.mem_cons_of_mem _ (List.mem_cons_of_mem _ List.mem_cons_self)))) (cvp 72 (x' := (4096 * (ρ 0) + (ρ 1))) (y' := ((ρ 3))) (by show 0 + (4096 * ρ 0 + (1 * ρ 1 + 0)) = _; omega) (by show 0 + (1 * ρ 3 + 0) = _; omega) (hm _ List.mem_cons_self)) (cvp 53 (x' := (4096 * (ρ 0) + (ρ 1))) (y' := (256 * (ρ 2) + 150)) (by show 0 + (4096 * ρ 0 + (1 * ρ 1 + 0)) = _; omega) (by show 150 + (256 * ρ 2 + 0) = _; omega) (hm _ (List.mem_cons_of_mem _ List.mem_cons_self))) hG
  obtain ⟨k0, -⟩ := H
  exact ⟨_, List.mem_cons_self, ρ, fun _ _ => rfl, (okM_c (pvp 74 (by show 0 + (4096 * ρ 0 + (1 * ρ 1 + 0)) = _; omega) (by show 0 + (1 * ρ 3 + 0) = _; omega) k0) okM_n), okB_n, okF_n⟩
-- lkid10
theorem cr_393 (M : pM) (s0 s1 s2 s3 : Int) (b0 : 0 ≤ s0 ∧ s0 ≤ 1900) (b1 : 0 ≤ s1 ∧ s1 ≤ 950) (b2 : 0 ≤ s2 ∧ s2 ≤ 1900) (b3 : (-2147483648) ≤ s3 ∧ s3 ≤ 2147483647) (m0 : HP 72 (4096 * s0 + s1) (s3) M) (m1 : HP 53 (4096 * s0 + s1) (256 * s2 + 169) M) (hG : gI M) : (HP 74 (4096 * s0 + s1) (s3) M ∧ True) := by
  exact ⟨Eq.mpr hp_74 (k_mid (K := 10) (Eq.mp hp_72 m0) (ex_o (K := 10) (j := 8) (a := s2) (Eq.mp hp_53 m1) ⟨by omega, by omega, by decide, by decide⟩) (fun _ _ => rfl)), trivial⟩
theorem rul_393 : Rul r_393 := by
  refine ⟨fun _ ρ M hm hB hF hG => ?_, fun gi gv hg => (by cases hg)⟩
  have H := cr_393 M (ρ 0) (ρ 1) (ρ 2) (ρ 3) (hB _ List.mem_cons_self) (hB _ (List.mem_cons_of_mem _ List.mem_cons_self)) (hB _ (List.mem_cons_of_mem _ (List.mem_cons_of_mem _ List.mem_cons_self))) (hB _ (List.mem_cons_of_mem _ (List.mem_cons_of_mem _ (List.mem_cons_of_mem _ List.mem_cons_self)))) (cvp 72 (x' := (4096 * (ρ 0) + (ρ 1))) (y' := ((ρ 3))) (by show 0 + (4096 * ρ 0 + (1 * ρ 1 + 0)) = _; omega) (by show 0 + (1 * ρ 3 + 0) = _; omega) (hm _ List.mem_cons_self)) (cvp 53 (x' := (4096 * (ρ 0) + (ρ 1))) (y' := (256 * (ρ 2) + 169)) (by show 0 + (4096 * ρ 0 + (1 * ρ 1 + 0)) = _; omega) (by show 169 + (256 * ρ 2 + 0) = _; omega) (hm _ (List.mem_cons_of_mem _ List.mem_cons_self))) hG
  obtain ⟨k0, -⟩ := H
  exact ⟨_, List.mem_cons_self, ρ, fun _ _ => rfl, (okM_c (pvp 74 (by show 0 + (4096 * ρ 0 + (1 * ρ 1 + 0)) = _; omega) (by show 0 + (1 * ρ 3 + 0) = _; omega) k0) okM_n), okB_n, okF_n⟩
-- rkw
theorem cr_394 (M : pM) (s0 s1 s2 s3 s4 s5 s6 : Int) (b0 : 0 ≤ s0 ∧ s0 ≤ 1900) (b1 : 0 ≤ s1 ∧ s1 ≤ 950) (b2 : 0 ≤ s2 ∧ s2 ≤ 1900) (b3 : (-2147483648) ≤ s3 ∧ s3 ≤ 2147483647) (b4 : 0 ≤ s4 ∧ s4 ≤ 7) (b5 : (-2147483648) ≤ s5 ∧ s5 ≤ 2147483647) (b6 : (-2147483648) ≤ s6 ∧ s6 ≤ 2147483647) (m0 : HP 71 (4096 * s0 + s1) (s3) M) (m1 : HP 53 (4096 * s0 + s1) (256 * s2 + 3) M) (m2 : HP 79 (16 * s0 + 1) (s4) M) (m3 : HP 103 (s4 + 4294967296) (s5) M) (m4 : HP 101 (4294967296 * s3 + s5) (s6) M) (hG : gI M) : (HP 73 (4096 * s0 + s1) (s6) M ∧ True) := by
  obtain ⟨s, hs, hb⟩ := Eq.mp hp_71 m0
  obtain ⟨t, ht, hE⟩ := ex_o (K := 0) (j := 2) (a := s2) (Eq.mp hp_53 m1) ⟨by omega, by omega, by decide, by decide⟩
  have e2 := qat_u hs ht
  subst e2
  have hp : s0.toNat = t.1 := by have := qat_p (P := s0) (l := s1) hs ⟨by omega, by omega, by omega⟩; omega
  have hv := q79 (P := s0) (i := 1) m2 ⟨by omega, by decide⟩ (by omega)
  rw [hp] at hv
  refine ⟨Eq.mpr hp_73 ⟨t, 0, hs, ⟨hE.2.2.1, hE.2.2.2.1⟩, fun i hi => ?_⟩, trivial⟩
  rw [t4_set (y := s4.toNat) (m := s3) (o := s5) (by omega) hi m3 (by omega) m4 (by omega) (by unfold r32; omega)]
  show _ = if (i : Int) = qvl (tm M) t.1 1 then 1 else t.2 15 i
  by_cases e : i = s4.toNat
  · rw [if_pos e, if_pos (by omega)]
  · rw [if_neg e, if_neg (by omega)]; exact hb i hi
theorem rul_394 : Rul r_394 := by
  refine ⟨fun _ ρ M hm hB hF hG => ?_, fun gi gv hg => (by cases hg)⟩
  have H := cr_394 M (ρ 0) (ρ 1) (ρ 2) (ρ 3) (ρ 4) (ρ 5) (ρ 6) (hB _ List.mem_cons_self) (hB _ (List.mem_cons_of_mem _ List.mem_cons_self)) (hB _ (List.mem_cons_of_mem _ (List.mem_cons_of_mem _ List.mem_cons_self))) (hB _ (List.mem_cons_of_mem _ (List.mem_cons_of_mem _ (List.mem_cons_of_mem _ List.mem_cons_self)))) (hB _ (List.mem_cons_of_mem _ (List.mem_cons_of_mem _ (List.mem_cons_of_mem _ (List.mem_cons_of_mem _ List.mem_cons_self))))) (hB _ (List.mem_cons_of_mem _ (List.mem_cons_of_mem _ (List.mem_cons_of_mem _ (List.mem_cons_of_mem _ (List.mem_cons_of_mem _ List.mem_cons_self)))))) (hB _ (List.mem_cons_of_mem _ (List.mem_cons_of_mem _ (List.mem_cons_of_mem _ (List.mem_cons_of_mem _ (List.mem_cons_of_mem _ (List.mem_cons_of_mem _ List.mem_cons_self))))))) (cvp 71 (x' := (4096 * (ρ 0) + (ρ 1))) (y' := ((ρ 3))) (by show 0 + (4096 * ρ 0 + (1 * ρ 1 + 0)) = _; omega) (by show 0 + (1 * ρ 3 + 0) = _; omega) (hm _ List.mem_cons_self)) (cvp 53 (x' := (4096 * (ρ 0) + (ρ 1))) (y' := (256 * (ρ 2) + 3)) (by show 0 + (4096 * ρ 0 + (1 * ρ 1 + 0)) = _; omega) (by show 3 + (256 * ρ 2 + 0) = _; omega) (hm _ (List.mem_cons_of_mem _ List.mem_cons_self))) (cvp 79 (x' := (16 * (ρ 0) + 1)) (y' := ((ρ 4))) (by show 1 + (16 * ρ 0 + 0) = _; omega) (by show 0 + (1 * ρ 4 + 0) = _; omega) (hm _ (List.mem_cons_of_mem _ (List.mem_cons_of_mem _ List.mem_cons_self)))) (cvp 103 (x' := ((ρ 4) + 4294967296)) (y' := ((ρ 5))) (by show 4294967296 + (1 * ρ 4 + 0) = _; omega) (by show 0 + (1 * ρ 5 + 0) = _; omega) (hm _ (List.mem_cons_of_mem _ (List.mem_cons_of_mem _ (List.mem_cons_of_mem _ List.mem_cons_self))))) (cvp 101 (x' := (4294967296 * (ρ 3) + (ρ 5))) (y' := ((ρ 6))) (by show 0 + (4294967296 * ρ 3 + (1 * ρ 5 + 0)) = _; omega) (by show 0 + (1 * ρ 6 + 0) = _; omega) (hm _ (List.mem_cons_of_mem _ (List.mem_cons_of_mem _ (List.mem_cons_of_mem _ (List.mem_cons_of_mem _ List.mem_cons_self)))))) hG
  obtain ⟨k0, -⟩ := H
  exact ⟨_, List.mem_cons_self, ρ, fun _ _ => rfl, (okM_c (pvp 73 (by show 0 + (4096 * ρ 0 + (1 * ρ 1 + 0)) = _; omega) (by show 0 + (1 * ρ 6 + 0) = _; omega) k0) okM_n), okB_n, okF_n⟩
-- lkw
theorem cr_395 (M : pM) (s0 s1 s2 s3 s4 s5 s6 : Int) (b0 : 0 ≤ s0 ∧ s0 ≤ 1900) (b1 : 0 ≤ s1 ∧ s1 ≤ 950) (b2 : 0 ≤ s2 ∧ s2 ≤ 1900) (b3 : (-2147483648) ≤ s3 ∧ s3 ≤ 2147483647) (b4 : 0 ≤ s4 ∧ s4 ≤ 7) (b5 : (-2147483648) ≤ s5 ∧ s5 ≤ 2147483647) (b6 : (-2147483648) ≤ s6 ∧ s6 ≤ 2147483647) (m0 : HP 72 (4096 * s0 + s1) (s3) M) (m1 : HP 53 (4096 * s0 + s1) (256 * s2 + 24) M) (m2 : HP 87 (s0) (s4) M) (m3 : HP 103 (s4 + 4294967296) (s5) M) (m4 : HP 101 (4294967296 * s3 + s5) (s6) M) (hG : gI M) : (HP 74 (4096 * s0 + s1) (s6) M ∧ True) := by
  obtain ⟨s, hs, hb⟩ := Eq.mp hp_72 m0
  obtain ⟨t, ht, hE⟩ := ex_o (K := 1) (j := 7) (a := s2) (Eq.mp hp_53 m1) ⟨by omega, by omega, by decide, by decide⟩
  have e2 := qat_u hs ht
  subst e2
  have hp : s0.toNat = t.1 := by have := qat_p (P := s0) (l := s1) hs ⟨by omega, by omega, by omega⟩; omega
  have hv := (Eq.mp hp_87 m2).2
  rw [hp] at hv
  refine ⟨Eq.mpr hp_74 ⟨t, 1, hs, ⟨hE.2.2.1, hE.2.2.2.1⟩, fun i hi => ?_⟩, trivial⟩
  rw [t4_set (y := s4.toNat) (m := s3) (o := s5) (by omega) hi m3 (by omega) m4 (by omega) (by unfold r32; omega)]
  show _ = if (i : Int) = qlt (tm M) t.1 1 0 - 97 then 1 else t.2 16 i
  by_cases e : i = s4.toNat
  · rw [if_pos e, if_pos (by omega)]
  · rw [if_neg e, if_neg (by omega)]; exact hb i hi
theorem rul_395 : Rul r_395 := by
  refine ⟨fun _ ρ M hm hB hF hG => ?_, fun gi gv hg => (by cases hg)⟩
  have H := cr_395 M (ρ 0) (ρ 1) (ρ 2) (ρ 3) (ρ 4) (ρ 5) (ρ 6) (hB _ List.mem_cons_self) (hB _ (List.mem_cons_of_mem _ List.mem_cons_self)) (hB _ (List.mem_cons_of_mem _ (List.mem_cons_of_mem _ List.mem_cons_self))) (hB _ (List.mem_cons_of_mem _ (List.mem_cons_of_mem _ (List.mem_cons_of_mem _ List.mem_cons_self)))) (hB _ (List.mem_cons_of_mem _ (List.mem_cons_of_mem _ (List.mem_cons_of_mem _ (List.mem_cons_of_mem _ List.mem_cons_self))))) (hB _ (List.mem_cons_of_mem _ (List.mem_cons_of_mem _ (List.mem_cons_of_mem _ (List.mem_cons_of_mem _ (List.mem_cons_of_mem _ List.mem_cons_self)))))) (hB _ (List.mem_cons_of_mem _ (List.mem_cons_of_mem _ (List.mem_cons_of_mem _ (List.mem_cons_of_mem _ (List.mem_cons_of_mem _ (List.mem_cons_of_mem _ List.mem_cons_self))))))) (cvp 72 (x' := (4096 * (ρ 0) + (ρ 1))) (y' := ((ρ 3))) (by show 0 + (4096 * ρ 0 + (1 * ρ 1 + 0)) = _; omega) (by show 0 + (1 * ρ 3 + 0) = _; omega) (hm _ List.mem_cons_self)) (cvp 53 (x' := (4096 * (ρ 0) + (ρ 1))) (y' := (256 * (ρ 2) + 24)) (by show 0 + (4096 * ρ 0 + (1 * ρ 1 + 0)) = _; omega) (by show 24 + (256 * ρ 2 + 0) = _; omega) (hm _ (List.mem_cons_of_mem _ List.mem_cons_self))) (cvp 87 (x' := ((ρ 0))) (y' := ((ρ 4))) (by show 0 + (1 * ρ 0 + 0) = _; omega) (by show 0 + (1 * ρ 4 + 0) = _; omega) (hm _ (List.mem_cons_of_mem _ (List.mem_cons_of_mem _ List.mem_cons_self)))) (cvp 103 (x' := ((ρ 4) + 4294967296)) (y' := ((ρ 5))) (by show 4294967296 + (1 * ρ 4 + 0) = _; omega) (by show 0 + (1 * ρ 5 + 0) = _; omega) (hm _ (List.mem_cons_of_mem _ (List.mem_cons_of_mem _ (List.mem_cons_of_mem _ List.mem_cons_self))))) (cvp 101 (x' := (4294967296 * (ρ 3) + (ρ 5))) (y' := ((ρ 6))) (by show 0 + (4294967296 * ρ 3 + (1 * ρ 5 + 0)) = _; omega) (by show 0 + (1 * ρ 6 + 0) = _; omega) (hm _ (List.mem_cons_of_mem _ (List.mem_cons_of_mem _ (List.mem_cons_of_mem _ (List.mem_cons_of_mem _ List.mem_cons_self)))))) hG
  obtain ⟨k0, -⟩ := H
  exact ⟨_, List.mem_cons_self, ρ, fun _ _ => rfl, (okM_c (pvp 74 (by show 0 + (4096 * ρ 0 + (1 * ρ 1 + 0)) = _; omega) (by show 0 + (1 * ρ 6 + 0) = _; omega) k0) okM_n), okB_n, okF_n⟩
-- fsm0
theorem cr_396 (M : pM) (s0 s1 s2 s3 s4 : Int) (b0 : 0 ≤ s0 ∧ s0 ≤ 1900) (b1 : 0 ≤ s1 ∧ s1 ≤ 950) (b2 : 0 ≤ s2 ∧ s2 ≤ 1900) (b3 : 0 ≤ s3 ∧ s3 ≤ 1900) (b4 : (-1) ≤ s4 ∧ s4 ≤ 255) (m0 : HP 89 (4096 * s0 + s1) (s2) M) (m1 : HP 47 (s2) (s4) M) (m2 : HP 45 (s2) (s3) M) (hG : gI M) : (HP 66 (s3) (1 : Int) M ∧ True) := by
  obtain ⟨s, K, hs, hf, hy⟩ := Eq.mp hp_89 m0
  have hn := qni_le (K := K)
  have hk := (qkw_o hf.1.1).2
  have e : tK (tm M) (qps (tm M) s.1 (qni K)) = s4 := by rw [show qps (tm M) s.1 (qni K) = s2.toNat by omega]; exact (q47 m1).2
  have hq : EXq (tm M) s K (qni K - 1) s2 := ⟨by omega, by omega, hf.1, hf.2, by rw [show qni K - 1 + 1 = qni K by omega]; exact hy⟩
  refine ⟨Eq.mpr hp_66 (fa_i hs hq (q45 m2).2 ?_), trivial⟩
  rw [show qni K - 1 + 1 = qni K by omega, qck_semi hk, e]
  exact qcK_1 (by omega)
theorem rul_396 : Rul r_396 := by
  refine ⟨fun _ ρ M hm hB hF hG => ?_, fun gi gv hg => (by cases hg)⟩
  have H := cr_396 M (ρ 0) (ρ 1) (ρ 2) (ρ 3) (ρ 4) (hB _ List.mem_cons_self) (hB _ (List.mem_cons_of_mem _ List.mem_cons_self)) (hB _ (List.mem_cons_of_mem _ (List.mem_cons_of_mem _ List.mem_cons_self))) (hB _ (List.mem_cons_of_mem _ (List.mem_cons_of_mem _ (List.mem_cons_of_mem _ List.mem_cons_self)))) (hB _ (List.mem_cons_of_mem _ (List.mem_cons_of_mem _ (List.mem_cons_of_mem _ (List.mem_cons_of_mem _ List.mem_cons_self))))) (cvp 89 (x' := (4096 * (ρ 0) + (ρ 1))) (y' := ((ρ 2))) (by show 0 + (4096 * ρ 0 + (1 * ρ 1 + 0)) = _; omega) (by show 0 + (1 * ρ 2 + 0) = _; omega) (hm _ List.mem_cons_self)) (cvp 47 (x' := ((ρ 2))) (y' := ((ρ 4))) (by show 0 + (1 * ρ 2 + 0) = _; omega) (by show 0 + (1 * ρ 4 + 0) = _; omega) (hm _ (List.mem_cons_of_mem _ List.mem_cons_self))) (cvp 45 (x' := ((ρ 2))) (y' := ((ρ 3))) (by show 0 + (1 * ρ 2 + 0) = _; omega) (by show 0 + (1 * ρ 3 + 0) = _; omega) (hm _ (List.mem_cons_of_mem _ (List.mem_cons_of_mem _ List.mem_cons_self)))) hG
  obtain ⟨k0, -⟩ := H
  exact ⟨_, List.mem_cons_self, ρ, fun _ _ => rfl, (okM_c (pvp 66 (by show 0 + (1 * ρ 3 + 0) = _; omega) (by show 1 + 0 = _; omega) k0) okM_n), okB_n, okF_n⟩
-- fsm1
theorem cr_397 (M : pM) (s0 s1 s2 s3 s4 : Int) (b0 : 0 ≤ s0 ∧ s0 ≤ 1900) (b1 : 0 ≤ s1 ∧ s1 ≤ 950) (b2 : 0 ≤ s2 ∧ s2 ≤ 1900) (b3 : 0 ≤ s3 ∧ s3 ≤ 1900) (b4 : 256 ≤ s4 ∧ s4 ≤ 600000) (m0 : HP 89 (4096 * s0 + s1) (s2) M) (m1 : HP 47 (s2) (s4) M) (m2 : HP 45 (s2) (s3) M) (f0 : 0 ≤ ((-1) * s4 + 524346)) (hG : gI M) : (HP 66 (s3) (2 : Int) M ∧ True) := by
  obtain ⟨s, K, hs, hf, hy⟩ := Eq.mp hp_89 m0
  have hn := qni_le (K := K)
  have hk := (qkw_o hf.1.1).2
  have e : tK (tm M) (qps (tm M) s.1 (qni K)) = s4 := by rw [show qps (tm M) s.1 (qni K) = s2.toNat by omega]; exact (q47 m1).2
  have hq : EXq (tm M) s K (qni K - 1) s2 := ⟨by omega, by omega, hf.1, hf.2, by rw [show qni K - 1 + 1 = qni K by omega]; exact hy⟩
  refine ⟨Eq.mpr hp_66 (fa_i hs hq (q45 m2).2 ?_), trivial⟩
  rw [show qni K - 1 + 1 = qni K by omega, qck_semi hk, e]
  exact qcK_2 (by omega) (by omega)
theorem rul_397 : Rul r_397 := by
  refine ⟨fun _ ρ M hm hB hF hG => ?_, fun gi gv hg => (by cases hg)⟩
  have H := cr_397 M (ρ 0) (ρ 1) (ρ 2) (ρ 3) (ρ 4) (hB _ List.mem_cons_self) (hB _ (List.mem_cons_of_mem _ List.mem_cons_self)) (hB _ (List.mem_cons_of_mem _ (List.mem_cons_of_mem _ List.mem_cons_self))) (hB _ (List.mem_cons_of_mem _ (List.mem_cons_of_mem _ (List.mem_cons_of_mem _ List.mem_cons_self)))) (hB _ (List.mem_cons_of_mem _ (List.mem_cons_of_mem _ (List.mem_cons_of_mem _ (List.mem_cons_of_mem _ List.mem_cons_self))))) (cvp 89 (x' := (4096 * (ρ 0) + (ρ 1))) (y' := ((ρ 2))) (by show 0 + (4096 * ρ 0 + (1 * ρ 1 + 0)) = _; omega) (by show 0 + (1 * ρ 2 + 0) = _; omega) (hm _ List.mem_cons_self)) (cvp 47 (x' := ((ρ 2))) (y' := ((ρ 4))) (by show 0 + (1 * ρ 2 + 0) = _; omega) (by show 0 + (1 * ρ 4 + 0) = _; omega) (hm _ (List.mem_cons_of_mem _ List.mem_cons_self))) (cvp 45 (x' := ((ρ 2))) (y' := ((ρ 3))) (by show 0 + (1 * ρ 2 + 0) = _; omega) (by show 0 + (1 * ρ 3 + 0) = _; omega) (hm _ (List.mem_cons_of_mem _ (List.mem_cons_of_mem _ List.mem_cons_self)))) (by have h := hF _ List.mem_cons_self; have h : 0 ≤ 524346 + ((-1) * ρ 4 + 0) := h; omega) hG
  obtain ⟨k0, -⟩ := H
  exact ⟨_, List.mem_cons_self, ρ, fun _ _ => rfl, (okM_c (pvp 66 (by show 0 + (1 * ρ 3 + 0) = _; omega) (by show 2 + 0 = _; omega) k0) okM_n), okB_n, okF_n⟩
-- fsm2
theorem cr_398 (M : pM) (s0 s1 s2 s3 s4 : Int) (b0 : 0 ≤ s0 ∧ s0 ≤ 1900) (b1 : 0 ≤ s1 ∧ s1 ≤ 950) (b2 : 0 ≤ s2 ∧ s2 ≤ 1900) (b3 : 0 ≤ s3 ∧ s3 ≤ 1900) (b4 : 256 ≤ s4 ∧ s4 ≤ 600000) (m0 : HP 89 (4096 * s0 + s1) (s2) M) (m1 : HP 47 (s2) (s4) M) (m2 : HP 45 (s2) (s3) M) (f0 : 0 ≤ (s4 - 524348)) (hG : gI M) : (HP 66 (s3) (2 : Int) M ∧ True) := by
  obtain ⟨s, K, hs, hf, hy⟩ := Eq.mp hp_89 m0
  have hn := qni_le (K := K)
  have hk := (qkw_o hf.1.1).2
  have e : tK (tm M) (qps (tm M) s.1 (qni K)) = s4 := by rw [show qps (tm M) s.1 (qni K) = s2.toNat by omega]; exact (q47 m1).2
  have hq : EXq (tm M) s K (qni K - 1) s2 := ⟨by omega, by omega, hf.1, hf.2, by rw [show qni K - 1 + 1 = qni K by omega]; exact hy⟩
  refine ⟨Eq.mpr hp_66 (fa_i hs hq (q45 m2).2 ?_), trivial⟩
  rw [show qni K - 1 + 1 = qni K by omega, qck_semi hk, e]
  exact qcK_2 (by omega) (by omega)
theorem rul_398 : Rul r_398 := by
  refine ⟨fun _ ρ M hm hB hF hG => ?_, fun gi gv hg => (by cases hg)⟩
  have H := cr_398 M (ρ 0) (ρ 1) (ρ 2) (ρ 3) (ρ 4) (hB _ List.mem_cons_self) (hB _ (List.mem_cons_of_mem _ List.mem_cons_self)) (hB _ (List.mem_cons_of_mem _ (List.mem_cons_of_mem _ List.mem_cons_self))) (hB _ (List.mem_cons_of_mem _ (List.mem_cons_of_mem _ (List.mem_cons_of_mem _ List.mem_cons_self)))) (hB _ (List.mem_cons_of_mem _ (List.mem_cons_of_mem _ (List.mem_cons_of_mem _ (List.mem_cons_of_mem _ List.mem_cons_self))))) (cvp 89 (x' := (4096 * (ρ 0) + (ρ 1))) (y' := ((ρ 2))) (by show 0 + (4096 * ρ 0 + (1 * ρ 1 + 0)) = _; omega) (by show 0 + (1 * ρ 2 + 0) = _; omega) (hm _ List.mem_cons_self)) (cvp 47 (x' := ((ρ 2))) (y' := ((ρ 4))) (by show 0 + (1 * ρ 2 + 0) = _; omega) (by show 0 + (1 * ρ 4 + 0) = _; omega) (hm _ (List.mem_cons_of_mem _ List.mem_cons_self))) (cvp 45 (x' := ((ρ 2))) (y' := ((ρ 3))) (by show 0 + (1 * ρ 2 + 0) = _; omega) (by show 0 + (1 * ρ 3 + 0) = _; omega) (hm _ (List.mem_cons_of_mem _ (List.mem_cons_of_mem _ List.mem_cons_self)))) (by have h := hF _ List.mem_cons_self; have h : 0 ≤ (-524348) + (1 * ρ 4 + 0) := h; omega) hG
  obtain ⟨k0, -⟩ := H
  exact ⟨_, List.mem_cons_self, ρ, fun _ _ => rfl, (okM_c (pvp 66 (by show 0 + (1 * ρ 3 + 0) = _; omega) (by show 2 + 0 = _; omega) k0) okM_n), okB_n, okF_n⟩
-- trn
theorem cr_399 (M : pM) (s0 : Int) (b0 : 0 ≤ s0 ∧ s0 ≤ 1900) (m0 : HP 42 (0 : Int) (0 : Int) M) (m1 : (0 ≤ (3 : Int) ∧ M 61 (3 : Int).toNat = (s0))) (hG : gI M) : ((0 ≤ (1 : Int) ∧ M 2 (1 : Int).toNat = (s0)) ∧ True) := by
  obtain ⟨h1, h2, h3, h4⟩ := Eq.mp hp_42 m0
  have h5 : M 61 3 = s0 := m1.2
  exact ⟨⟨by decide, by show M 2 1 = s0; omega⟩, trivial⟩
theorem rul_399 : Rul r_399 := by
  refine ⟨fun _ ρ M hm hB hF hG => ?_, fun gi gv hg => (by cases hg)⟩
  have H := cr_399 M (ρ 0) (hB _ List.mem_cons_self) (cvp 42 (x' := (0 : Int)) (y' := (0 : Int)) (by show 0 + 0 = _; omega) (by show 0 + 0 = _; omega) (hm _ List.mem_cons_self)) (cvm (c := 61) (by decide) (x' := (3 : Int)) (y' := ((ρ 0))) (by show 3 + 0 = _; omega) (by show 0 + (1 * ρ 0 + 0) = _; omega) (hm _ (List.mem_cons_of_mem _ List.mem_cons_self))) hG
  obtain ⟨k0, -⟩ := H
  exact ⟨_, List.mem_cons_self, ρ, fun _ _ => rfl, (okM_c (pvm (c := 2) (by decide) (by show 1 + 0 = _; omega) (by show 0 + (1 * ρ 0 + 0) = _; omega) k0) okM_n), okB_n, okF_n⟩
