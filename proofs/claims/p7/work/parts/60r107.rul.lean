-- fjw_86_0
theorem cr_700 (M : pM) (s0 : Int) (b0 : 0 ≤ s0 ∧ s0 ≤ 63) (m0 : HP 165 (s0) (0 : Int) M) (hG : gI M) : (HP 165 (s0 + 1) (0 : Int) (st M 86 (s0).toNat (0 : Int)) ∧ True) := by
  refine ⟨Eq.mpr hp_165 ⟨by omega, fun i hi => ?_⟩, trivial⟩
  rw [show (s0).toNat = 0 + s0.toNat by omega, cw]
  by_cases e : i = s0.toNat
  · rw [if_pos e]
  · rw [if_neg e]; exact (Eq.mp hp_165 m0).2 i (by omega)
theorem rul_700 : Rul r_700 := by
  refine ⟨fun h => (by cases h), fun gi gv hg ρ M hm hB hF hG => ?_⟩
  obtain ⟨g1, g2⟩ := List.cons.inj (show ([aI ((0 : Int), ([(0, 1)] : List (Nat × Int))), aI ((0 : Int), ([] : List (Nat × Int)))] : List av) = [.inl gi, .inl gv] from hg)
  obtain ⟨g2, -⟩ := List.cons.inj g2
  cases g1
  cases g2
  have ei : ev ρ ((0 : Int), ([(0, 1)] : List (Nat × Int))) = ((ρ 0)) := by show 0 + (1 * ρ 0 + 0) = _; omega
  have ew : ev ρ ((0 : Int), ([] : List (Nat × Int))) = (0 : Int) := by show 0 + 0 = _; omega
  rw [show (st M (ctj r_700) (ev ρ ((0 : Int), ([(0, 1)] : List (Nat × Int)))).toNat (ev ρ ((0 : Int), ([] : List (Nat × Int))))) = (st M 86 ((ρ 0)).toNat (0 : Int)) from by rw [ei, ew]; rfl]
  have H := cr_700 M (ρ 0) (hB _ List.mem_cons_self) (cvp 165 (x' := ((ρ 0))) (y' := (0 : Int)) (by show 0 + (1 * ρ 0 + 0) = _; omega) (by show 0 + 0 = _; omega) (hm _ List.mem_cons_self)) hG
  obtain ⟨k0, -⟩ := H
  exact ⟨_, List.mem_cons_self, ρ, fun _ _ => rfl, (okM_c (pvp 165 (by show 1 + (1 * ρ 0 + 0) = _; omega) (by show 0 + 0 = _; omega) k0) okM_n), okB_n, okF_n⟩
-- fjx_86_0
theorem cr_701 (M : pM) (s0 s1 : Int) (b0 : 0 ≤ s0 ∧ s0 ≤ 64) (b1 : 0 ≤ s1 ∧ s1 ≤ 64) (m0 : HP 165 (s0) (0 : Int) M) (f0 : 0 ≤ ((-1) * s0 + s1)) (f1 : 0 ≤ (s0 + (-1) * s1)) (hG : gI M) : (HP 165 (s1) (0 : Int) M ∧ True) := by
  have e : s0 = s1 := by omega
  subst e
  exact ⟨m0, trivial⟩
theorem rul_701 : Rul r_701 := by
  refine ⟨fun _ ρ M hm hB hF hG => ?_, fun gi gv hg => (by cases hg)⟩
  have H := cr_701 M (ρ 0) (ρ 1) (hB _ List.mem_cons_self) (hB _ (List.mem_cons_of_mem _ List.mem_cons_self)) (cvp 165 (x' := ((ρ 0))) (y' := (0 : Int)) (by show 0 + (1 * ρ 0 + 0) = _; omega) (by show 0 + 0 = _; omega) (hm _ List.mem_cons_self)) (by have h := hF _ List.mem_cons_self; have h : 0 ≤ 0 + ((-1) * ρ 0 + (1 * ρ 1 + 0)) := h; omega) (by have h := hF _ (List.mem_cons_of_mem _ List.mem_cons_self); have h : 0 ≤ 0 + (1 * ρ 0 + ((-1) * ρ 1 + 0)) := h; omega) hG
  obtain ⟨k0, -⟩ := H
  exact ⟨_, List.mem_cons_self, ρ, fun _ _ => rfl, (okM_c (pvp 165 (by show 0 + (1 * ρ 1 + 0) = _; omega) (by show 0 + 0 = _; omega) k0) okM_n), okB_n, okF_n⟩
-- fj0_84_0
theorem cr_702 (M : pM)  (hG : gI M) : (HP 166 (0 : Int) (0 : Int) M ∧ True) := by
  exact ⟨Eq.mpr hp_166 ⟨by decide, fun i hi => by omega⟩, trivial⟩
theorem rul_702 : Rul r_702 := by
  refine ⟨fun _ ρ M hm hB hF hG => ?_, fun gi gv hg => (by cases hg)⟩
  have H := cr_702 M hG
  obtain ⟨k0, -⟩ := H
  exact ⟨_, List.mem_cons_self, ρ, fun _ _ => rfl, (okM_c (pvp 166 (by show 0 + 0 = _; omega) (by show 0 + 0 = _; omega) k0) okM_n), okB_n, okF_n⟩
-- fjw_84_0
theorem cr_703 (M : pM) (s0 : Int) (b0 : 0 ≤ s0 ∧ s0 ≤ 7) (m0 : HP 166 (s0) (0 : Int) M) (hG : gI M) : (HP 166 (s0 + 1) (0 : Int) (st M 84 (s0).toNat (0 : Int)) ∧ True) := by
  refine ⟨Eq.mpr hp_166 ⟨by omega, fun i hi => ?_⟩, trivial⟩
  rw [show (s0).toNat = 0 + s0.toNat by omega, cw]
  by_cases e : i = s0.toNat
  · rw [if_pos e]
  · rw [if_neg e]; exact (Eq.mp hp_166 m0).2 i (by omega)
theorem rul_703 : Rul r_703 := by
  refine ⟨fun h => (by cases h), fun gi gv hg ρ M hm hB hF hG => ?_⟩
  obtain ⟨g1, g2⟩ := List.cons.inj (show ([aI ((0 : Int), ([(0, 1)] : List (Nat × Int))), aI ((0 : Int), ([] : List (Nat × Int)))] : List av) = [.inl gi, .inl gv] from hg)
  obtain ⟨g2, -⟩ := List.cons.inj g2
  cases g1
  cases g2
  have ei : ev ρ ((0 : Int), ([(0, 1)] : List (Nat × Int))) = ((ρ 0)) := by show 0 + (1 * ρ 0 + 0) = _; omega
  have ew : ev ρ ((0 : Int), ([] : List (Nat × Int))) = (0 : Int) := by show 0 + 0 = _; omega
  rw [show (st M (ctj r_703) (ev ρ ((0 : Int), ([(0, 1)] : List (Nat × Int)))).toNat (ev ρ ((0 : Int), ([] : List (Nat × Int))))) = (st M 84 ((ρ 0)).toNat (0 : Int)) from by rw [ei, ew]; rfl]
  have H := cr_703 M (ρ 0) (hB _ List.mem_cons_self) (cvp 166 (x' := ((ρ 0))) (y' := (0 : Int)) (by show 0 + (1 * ρ 0 + 0) = _; omega) (by show 0 + 0 = _; omega) (hm _ List.mem_cons_self)) hG
  obtain ⟨k0, -⟩ := H
  exact ⟨_, List.mem_cons_self, ρ, fun _ _ => rfl, (okM_c (pvp 166 (by show 1 + (1 * ρ 0 + 0) = _; omega) (by show 0 + 0 = _; omega) k0) okM_n), okB_n, okF_n⟩
-- fjx_84_0
theorem cr_704 (M : pM) (s0 s1 : Int) (b0 : 0 ≤ s0 ∧ s0 ≤ 8) (b1 : 0 ≤ s1 ∧ s1 ≤ 8) (m0 : HP 166 (s0) (0 : Int) M) (f0 : 0 ≤ ((-1) * s0 + s1)) (f1 : 0 ≤ (s0 + (-1) * s1)) (hG : gI M) : (HP 166 (s1) (0 : Int) M ∧ True) := by
  have e : s0 = s1 := by omega
  subst e
  exact ⟨m0, trivial⟩
theorem rul_704 : Rul r_704 := by
  refine ⟨fun _ ρ M hm hB hF hG => ?_, fun gi gv hg => (by cases hg)⟩
  have H := cr_704 M (ρ 0) (ρ 1) (hB _ List.mem_cons_self) (hB _ (List.mem_cons_of_mem _ List.mem_cons_self)) (cvp 166 (x' := ((ρ 0))) (y' := (0 : Int)) (by show 0 + (1 * ρ 0 + 0) = _; omega) (by show 0 + 0 = _; omega) (hm _ List.mem_cons_self)) (by have h := hF _ List.mem_cons_self; have h : 0 ≤ 0 + ((-1) * ρ 0 + (1 * ρ 1 + 0)) := h; omega) (by have h := hF _ (List.mem_cons_of_mem _ List.mem_cons_self); have h : 0 ≤ 0 + (1 * ρ 0 + ((-1) * ρ 1 + 0)) := h; omega) hG
  obtain ⟨k0, -⟩ := H
  exact ⟨_, List.mem_cons_self, ρ, fun _ _ => rfl, (okM_c (pvp 166 (by show 0 + (1 * ρ 1 + 0) = _; omega) (by show 0 + 0 = _; omega) k0) okM_n), okB_n, okF_n⟩
-- fj0_85_0
theorem cr_705 (M : pM)  (hG : gI M) : (HP 167 (0 : Int) (0 : Int) M ∧ True) := by
  exact ⟨Eq.mpr hp_167 ⟨by decide, fun i hi => by omega⟩, trivial⟩
theorem rul_705 : Rul r_705 := by
  refine ⟨fun _ ρ M hm hB hF hG => ?_, fun gi gv hg => (by cases hg)⟩
  have H := cr_705 M hG
  obtain ⟨k0, -⟩ := H
  exact ⟨_, List.mem_cons_self, ρ, fun _ _ => rfl, (okM_c (pvp 167 (by show 0 + 0 = _; omega) (by show 0 + 0 = _; omega) k0) okM_n), okB_n, okF_n⟩
-- fjw_85_0
theorem cr_706 (M : pM) (s0 : Int) (b0 : 0 ≤ s0 ∧ s0 ≤ 7) (m0 : HP 167 (s0) (0 : Int) M) (hG : gI M) : (HP 167 (s0 + 1) (0 : Int) (st M 85 (s0).toNat (0 : Int)) ∧ True) := by
  refine ⟨Eq.mpr hp_167 ⟨by omega, fun i hi => ?_⟩, trivial⟩
  rw [show (s0).toNat = 0 + s0.toNat by omega, cw]
  by_cases e : i = s0.toNat
  · rw [if_pos e]
  · rw [if_neg e]; exact (Eq.mp hp_167 m0).2 i (by omega)
theorem rul_706 : Rul r_706 := by
  refine ⟨fun h => (by cases h), fun gi gv hg ρ M hm hB hF hG => ?_⟩
  obtain ⟨g1, g2⟩ := List.cons.inj (show ([aI ((0 : Int), ([(0, 1)] : List (Nat × Int))), aI ((0 : Int), ([] : List (Nat × Int)))] : List av) = [.inl gi, .inl gv] from hg)
  obtain ⟨g2, -⟩ := List.cons.inj g2
  cases g1
  cases g2
  have ei : ev ρ ((0 : Int), ([(0, 1)] : List (Nat × Int))) = ((ρ 0)) := by show 0 + (1 * ρ 0 + 0) = _; omega
  have ew : ev ρ ((0 : Int), ([] : List (Nat × Int))) = (0 : Int) := by show 0 + 0 = _; omega
  rw [show (st M (ctj r_706) (ev ρ ((0 : Int), ([(0, 1)] : List (Nat × Int)))).toNat (ev ρ ((0 : Int), ([] : List (Nat × Int))))) = (st M 85 ((ρ 0)).toNat (0 : Int)) from by rw [ei, ew]; rfl]
  have H := cr_706 M (ρ 0) (hB _ List.mem_cons_self) (cvp 167 (x' := ((ρ 0))) (y' := (0 : Int)) (by show 0 + (1 * ρ 0 + 0) = _; omega) (by show 0 + 0 = _; omega) (hm _ List.mem_cons_self)) hG
  obtain ⟨k0, -⟩ := H
  exact ⟨_, List.mem_cons_self, ρ, fun _ _ => rfl, (okM_c (pvp 167 (by show 1 + (1 * ρ 0 + 0) = _; omega) (by show 0 + 0 = _; omega) k0) okM_n), okB_n, okF_n⟩
-- fjx_85_0
theorem cr_707 (M : pM) (s0 s1 : Int) (b0 : 0 ≤ s0 ∧ s0 ≤ 8) (b1 : 0 ≤ s1 ∧ s1 ≤ 8) (m0 : HP 167 (s0) (0 : Int) M) (f0 : 0 ≤ ((-1) * s0 + s1)) (f1 : 0 ≤ (s0 + (-1) * s1)) (hG : gI M) : (HP 167 (s1) (0 : Int) M ∧ True) := by
  have e : s0 = s1 := by omega
  subst e
  exact ⟨m0, trivial⟩
theorem rul_707 : Rul r_707 := by
  refine ⟨fun _ ρ M hm hB hF hG => ?_, fun gi gv hg => (by cases hg)⟩
  have H := cr_707 M (ρ 0) (ρ 1) (hB _ List.mem_cons_self) (hB _ (List.mem_cons_of_mem _ List.mem_cons_self)) (cvp 167 (x' := ((ρ 0))) (y' := (0 : Int)) (by show 0 + (1 * ρ 0 + 0) = _; omega) (by show 0 + 0 = _; omega) (hm _ List.mem_cons_self)) (by have h := hF _ List.mem_cons_self; have h : 0 ≤ 0 + ((-1) * ρ 0 + (1 * ρ 1 + 0)) := h; omega) (by have h := hF _ (List.mem_cons_of_mem _ List.mem_cons_self); have h : 0 ≤ 0 + (1 * ρ 0 + ((-1) * ρ 1 + 0)) := h; omega) hG
  obtain ⟨k0, -⟩ := H
  exact ⟨_, List.mem_cons_self, ρ, fun _ _ => rfl, (okM_c (pvp 167 (by show 0 + (1 * ρ 1 + 0) = _; omega) (by show 0 + 0 = _; omega) k0) okM_n), okB_n, okF_n⟩
-- ra0_0
theorem cr_708 (M : pM) (m0 : HP 160 (64 : Int) (0 : Int) M) (m1 : HP 161 (48 : Int) (0 : Int) M) (m2 : HP 162 (6 : Int) (-1 : Int) M) (m3 : HP 163 (6 : Int) (0 : Int) M) (m4 : HP 164 (6 : Int) (-1 : Int) M) (m5 : HP 165 (64 : Int) (0 : Int) M) (m6 : HP 166 (8 : Int) (0 : Int) M) (m7 : HP 167 (8 : Int) (0 : Int) M) (hG : gI M) : (HP 60 (0 : Int) (0 : Int) M ∧ True) := by
  have q0 : qat (tm M) 0 (0, qA0) := ⟨0, by decide, by decide, rfl⟩
  refine ⟨Eq.mpr hp_60 ⟨(0, qA0), q0, ⟨by decide, by decide, by decide, by decide⟩, ?_⟩, trivial⟩
  refine ⟨fun i hi => by have h := (Eq.mp hp_160 m0).2 i (by omega); exact h, fun i hi => by have h := (Eq.mp hp_161 m1).2 i (by omega); exact h, fun i hi => by have h := (Eq.mp hp_162 m2).2 i (by omega); exact h, fun i hi => by have h := (Eq.mp hp_163 m3).2 i (by omega); exact h, fun i hi => by have h := (Eq.mp hp_164 m4).2 i (by omega); exact h, fun i hi hw => ?_, fun i hi hw => ?_, fun i j hi hj hw => ?_, fun i hi hw => ?_, fun i hi hw => ?_, fun i hi => by have h := (Eq.mp hp_166 m6).2 i (by omega); rw [Nat.zero_add] at h; exact h, fun i hi => by have h := (Eq.mp hp_167 m7).2 i (by omega); rw [Nat.zero_add] at h; exact h, fun i hi => by have h := (Eq.mp hp_165 m5).2 i (by omega); exact h⟩
  all_goals (have hw : (i : Int) < 0 := hw; omega)
theorem rul_708 : Rul r_708 := by
  refine ⟨fun _ ρ M hm hB hF hG => ?_, fun gi gv hg => (by cases hg)⟩
  have H := cr_708 M (cvp 160 (x' := (64 : Int)) (y' := (0 : Int)) (by show 64 + 0 = _; omega) (by show 0 + 0 = _; omega) (hm _ List.mem_cons_self)) (cvp 161 (x' := (48 : Int)) (y' := (0 : Int)) (by show 48 + 0 = _; omega) (by show 0 + 0 = _; omega) (hm _ (List.mem_cons_of_mem _ List.mem_cons_self))) (cvp 162 (x' := (6 : Int)) (y' := (-1 : Int)) (by show 6 + 0 = _; omega) (by show (-1) + 0 = _; omega) (hm _ (List.mem_cons_of_mem _ (List.mem_cons_of_mem _ List.mem_cons_self)))) (cvp 163 (x' := (6 : Int)) (y' := (0 : Int)) (by show 6 + 0 = _; omega) (by show 0 + 0 = _; omega) (hm _ (List.mem_cons_of_mem _ (List.mem_cons_of_mem _ (List.mem_cons_of_mem _ List.mem_cons_self))))) (cvp 164 (x' := (6 : Int)) (y' := (-1 : Int)) (by show 6 + 0 = _; omega) (by show (-1) + 0 = _; omega) (hm _ (List.mem_cons_of_mem _ (List.mem_cons_of_mem _ (List.mem_cons_of_mem _ (List.mem_cons_of_mem _ List.mem_cons_self)))))) (cvp 165 (x' := (64 : Int)) (y' := (0 : Int)) (by show 64 + 0 = _; omega) (by show 0 + 0 = _; omega) (hm _ (List.mem_cons_of_mem _ (List.mem_cons_of_mem _ (List.mem_cons_of_mem _ (List.mem_cons_of_mem _ (List.mem_cons_of_mem _ List.mem_cons_self))))))) (cvp 166 (x' := (8 : Int)) (y' := (0 : Int)) (by show 8 + 0 = _; omega) (by show 0 + 0 = _; omega) (hm _ (List.mem_cons_of_mem _ (List.mem_cons_of_mem _ (List.mem_cons_of_mem _ (List.mem_cons_of_mem _ (List.mem_cons_of_mem _ (List.mem_cons_of_mem _ List.mem_cons_self)))))))) (cvp 167 (x' := (8 : Int)) (y' := (0 : Int)) (by show 8 + 0 = _; omega) (by show 0 + 0 = _; omega) (hm _ (List.mem_cons_of_mem _ (List.mem_cons_of_mem _ (List.mem_cons_of_mem _ (List.mem_cons_of_mem _ (List.mem_cons_of_mem _ (List.mem_cons_of_mem _ (List.mem_cons_of_mem _ List.mem_cons_self))))))))) hG
  obtain ⟨k0, -⟩ := H
  exact ⟨_, List.mem_cons_self, ρ, fun _ _ => rfl, (okM_c (pvp 60 (by show 0 + 0 = _; omega) (by show 0 + 0 = _; omega) k0) okM_n), okB_n, okF_n⟩
-- fj0_69_1
theorem cr_709 (M : pM)  (hG : gI M) : (HP 170 (0 : Int) (0 : Int) M ∧ True) := by
  exact ⟨Eq.mpr hp_170 ⟨by decide, fun i hi => by omega⟩, trivial⟩
theorem rul_709 : Rul r_709 := by
  refine ⟨fun _ ρ M hm hB hF hG => ?_, fun gi gv hg => (by cases hg)⟩
  have H := cr_709 M hG
  obtain ⟨k0, -⟩ := H
  exact ⟨_, List.mem_cons_self, ρ, fun _ _ => rfl, (okM_c (pvp 170 (by show 0 + 0 = _; omega) (by show 0 + 0 = _; omega) k0) okM_n), okB_n, okF_n⟩
-- fjw_69_1
theorem cr_710 (M : pM) (s0 : Int) (b0 : 0 ≤ s0 ∧ s0 ≤ 63) (m0 : HP 170 (s0) (0 : Int) M) (hG : gI M) : (HP 170 (s0 + 1) (0 : Int) (st M 69 (s0 + 64).toNat (0 : Int)) ∧ True) := by
  refine ⟨Eq.mpr hp_170 ⟨by omega, fun i hi => ?_⟩, trivial⟩
  rw [show (s0 + 64).toNat = 64 + s0.toNat by omega, cw]
  by_cases e : i = s0.toNat
  · rw [if_pos e]
  · rw [if_neg e]; exact (Eq.mp hp_170 m0).2 i (by omega)
theorem rul_710 : Rul r_710 := by
  refine ⟨fun h => (by cases h), fun gi gv hg ρ M hm hB hF hG => ?_⟩
  obtain ⟨g1, g2⟩ := List.cons.inj (show ([aI ((64 : Int), ([(0, 1)] : List (Nat × Int))), aI ((0 : Int), ([] : List (Nat × Int)))] : List av) = [.inl gi, .inl gv] from hg)
  obtain ⟨g2, -⟩ := List.cons.inj g2
  cases g1
  cases g2
  have ei : ev ρ ((64 : Int), ([(0, 1)] : List (Nat × Int))) = ((ρ 0) + 64) := by show 64 + (1 * ρ 0 + 0) = _; omega
  have ew : ev ρ ((0 : Int), ([] : List (Nat × Int))) = (0 : Int) := by show 0 + 0 = _; omega
  rw [show (st M (ctj r_710) (ev ρ ((64 : Int), ([(0, 1)] : List (Nat × Int)))).toNat (ev ρ ((0 : Int), ([] : List (Nat × Int))))) = (st M 69 ((ρ 0) + 64).toNat (0 : Int)) from by rw [ei, ew]; rfl]
  have H := cr_710 M (ρ 0) (hB _ List.mem_cons_self) (cvp 170 (x' := ((ρ 0))) (y' := (0 : Int)) (by show 0 + (1 * ρ 0 + 0) = _; omega) (by show 0 + 0 = _; omega) (hm _ List.mem_cons_self)) hG
  obtain ⟨k0, -⟩ := H
  exact ⟨_, List.mem_cons_self, ρ, fun _ _ => rfl, (okM_c (pvp 170 (by show 1 + (1 * ρ 0 + 0) = _; omega) (by show 0 + 0 = _; omega) k0) okM_n), okB_n, okF_n⟩
-- fjx_69_1
theorem cr_711 (M : pM) (s0 s1 : Int) (b0 : 0 ≤ s0 ∧ s0 ≤ 64) (b1 : 0 ≤ s1 ∧ s1 ≤ 64) (m0 : HP 170 (s0) (0 : Int) M) (f0 : 0 ≤ ((-1) * s0 + s1)) (f1 : 0 ≤ (s0 + (-1) * s1)) (hG : gI M) : (HP 170 (s1) (0 : Int) M ∧ True) := by
  have e : s0 = s1 := by omega
  subst e
  exact ⟨m0, trivial⟩
theorem rul_711 : Rul r_711 := by
  refine ⟨fun _ ρ M hm hB hF hG => ?_, fun gi gv hg => (by cases hg)⟩
  have H := cr_711 M (ρ 0) (ρ 1) (hB _ List.mem_cons_self) (hB _ (List.mem_cons_of_mem _ List.mem_cons_self)) (cvp 170 (x' := ((ρ 0))) (y' := (0 : Int)) (by show 0 + (1 * ρ 0 + 0) = _; omega) (by show 0 + 0 = _; omega) (hm _ List.mem_cons_self)) (by have h := hF _ List.mem_cons_self; have h : 0 ≤ 0 + ((-1) * ρ 0 + (1 * ρ 1 + 0)) := h; omega) (by have h := hF _ (List.mem_cons_of_mem _ List.mem_cons_self); have h : 0 ≤ 0 + (1 * ρ 0 + ((-1) * ρ 1 + 0)) := h; omega) hG
  obtain ⟨k0, -⟩ := H
  exact ⟨_, List.mem_cons_self, ρ, fun _ _ => rfl, (okM_c (pvp 170 (by show 0 + (1 * ρ 1 + 0) = _; omega) (by show 0 + 0 = _; omega) k0) okM_n), okB_n, okF_n⟩
-- fj0_70_1
theorem cr_712 (M : pM)  (hG : gI M) : (HP 171 (0 : Int) (0 : Int) M ∧ True) := by
  exact ⟨Eq.mpr hp_171 ⟨by decide, fun i hi => by omega⟩, trivial⟩
theorem rul_712 : Rul r_712 := by
  refine ⟨fun _ ρ M hm hB hF hG => ?_, fun gi gv hg => (by cases hg)⟩
  have H := cr_712 M hG
  obtain ⟨k0, -⟩ := H
  exact ⟨_, List.mem_cons_self, ρ, fun _ _ => rfl, (okM_c (pvp 171 (by show 0 + 0 = _; omega) (by show 0 + 0 = _; omega) k0) okM_n), okB_n, okF_n⟩
-- fjw_70_1
theorem cr_713 (M : pM) (s0 : Int) (b0 : 0 ≤ s0 ∧ s0 ≤ 47) (m0 : HP 171 (s0) (0 : Int) M) (hG : gI M) : (HP 171 (s0 + 1) (0 : Int) (st M 70 (s0 + 48).toNat (0 : Int)) ∧ True) := by
  refine ⟨Eq.mpr hp_171 ⟨by omega, fun i hi => ?_⟩, trivial⟩
  rw [show (s0 + 48).toNat = 48 + s0.toNat by omega, cw]
  by_cases e : i = s0.toNat
  · rw [if_pos e]
  · rw [if_neg e]; exact (Eq.mp hp_171 m0).2 i (by omega)
theorem rul_713 : Rul r_713 := by
  refine ⟨fun h => (by cases h), fun gi gv hg ρ M hm hB hF hG => ?_⟩
  obtain ⟨g1, g2⟩ := List.cons.inj (show ([aI ((48 : Int), ([(0, 1)] : List (Nat × Int))), aI ((0 : Int), ([] : List (Nat × Int)))] : List av) = [.inl gi, .inl gv] from hg)
  obtain ⟨g2, -⟩ := List.cons.inj g2
  cases g1
  cases g2
  have ei : ev ρ ((48 : Int), ([(0, 1)] : List (Nat × Int))) = ((ρ 0) + 48) := by show 48 + (1 * ρ 0 + 0) = _; omega
  have ew : ev ρ ((0 : Int), ([] : List (Nat × Int))) = (0 : Int) := by show 0 + 0 = _; omega
  rw [show (st M (ctj r_713) (ev ρ ((48 : Int), ([(0, 1)] : List (Nat × Int)))).toNat (ev ρ ((0 : Int), ([] : List (Nat × Int))))) = (st M 70 ((ρ 0) + 48).toNat (0 : Int)) from by rw [ei, ew]; rfl]
  have H := cr_713 M (ρ 0) (hB _ List.mem_cons_self) (cvp 171 (x' := ((ρ 0))) (y' := (0 : Int)) (by show 0 + (1 * ρ 0 + 0) = _; omega) (by show 0 + 0 = _; omega) (hm _ List.mem_cons_self)) hG
  obtain ⟨k0, -⟩ := H
  exact ⟨_, List.mem_cons_self, ρ, fun _ _ => rfl, (okM_c (pvp 171 (by show 1 + (1 * ρ 0 + 0) = _; omega) (by show 0 + 0 = _; omega) k0) okM_n), okB_n, okF_n⟩
-- fjx_70_1
theorem cr_714 (M : pM) (s0 s1 : Int) (b0 : 0 ≤ s0 ∧ s0 ≤ 48) (b1 : 0 ≤ s1 ∧ s1 ≤ 48) (m0 : HP 171 (s0) (0 : Int) M) (f0 : 0 ≤ ((-1) * s0 + s1)) (f1 : 0 ≤ (s0 + (-1) * s1)) (hG : gI M) : (HP 171 (s1) (0 : Int) M ∧ True) := by
  have e : s0 = s1 := by omega
  subst e
  exact ⟨m0, trivial⟩
theorem rul_714 : Rul r_714 := by
  refine ⟨fun _ ρ M hm hB hF hG => ?_, fun gi gv hg => (by cases hg)⟩
  have H := cr_714 M (ρ 0) (ρ 1) (hB _ List.mem_cons_self) (hB _ (List.mem_cons_of_mem _ List.mem_cons_self)) (cvp 171 (x' := ((ρ 0))) (y' := (0 : Int)) (by show 0 + (1 * ρ 0 + 0) = _; omega) (by show 0 + 0 = _; omega) (hm _ List.mem_cons_self)) (by have h := hF _ List.mem_cons_self; have h : 0 ≤ 0 + ((-1) * ρ 0 + (1 * ρ 1 + 0)) := h; omega) (by have h := hF _ (List.mem_cons_of_mem _ List.mem_cons_self); have h : 0 ≤ 0 + (1 * ρ 0 + ((-1) * ρ 1 + 0)) := h; omega) hG
  obtain ⟨k0, -⟩ := H
  exact ⟨_, List.mem_cons_self, ρ, fun _ _ => rfl, (okM_c (pvp 171 (by show 0 + (1 * ρ 1 + 0) = _; omega) (by show 0 + 0 = _; omega) k0) okM_n), okB_n, okF_n⟩
-- fj0_71_1
theorem cr_715 (M : pM)  (hG : gI M) : (HP 172 (0 : Int) (-1 : Int) M ∧ True) := by
  exact ⟨Eq.mpr hp_172 ⟨by decide, fun i hi => by omega⟩, trivial⟩
theorem rul_715 : Rul r_715 := by
  refine ⟨fun _ ρ M hm hB hF hG => ?_, fun gi gv hg => (by cases hg)⟩
  have H := cr_715 M hG
  obtain ⟨k0, -⟩ := H
  exact ⟨_, List.mem_cons_self, ρ, fun _ _ => rfl, (okM_c (pvp 172 (by show 0 + 0 = _; omega) (by show (-1) + 0 = _; omega) k0) okM_n), okB_n, okF_n⟩
-- fjw_71_1
theorem cr_716 (M : pM) (s0 : Int) (b0 : 0 ≤ s0 ∧ s0 ≤ 5) (m0 : HP 172 (s0) (-1 : Int) M) (hG : gI M) : (HP 172 (s0 + 1) (-1 : Int) (st M 71 (s0 + 6).toNat (-1 : Int)) ∧ True) := by
  refine ⟨Eq.mpr hp_172 ⟨by omega, fun i hi => ?_⟩, trivial⟩
  rw [show (s0 + 6).toNat = 6 + s0.toNat by omega, cw]
  by_cases e : i = s0.toNat
  · rw [if_pos e]
  · rw [if_neg e]; exact (Eq.mp hp_172 m0).2 i (by omega)
theorem rul_716 : Rul r_716 := by
  refine ⟨fun h => (by cases h), fun gi gv hg ρ M hm hB hF hG => ?_⟩
  obtain ⟨g1, g2⟩ := List.cons.inj (show ([aI ((6 : Int), ([(0, 1)] : List (Nat × Int))), aI (((-1) : Int), ([] : List (Nat × Int)))] : List av) = [.inl gi, .inl gv] from hg)
  obtain ⟨g2, -⟩ := List.cons.inj g2
  cases g1
  cases g2
  have ei : ev ρ ((6 : Int), ([(0, 1)] : List (Nat × Int))) = ((ρ 0) + 6) := by show 6 + (1 * ρ 0 + 0) = _; omega
  have ew : ev ρ (((-1) : Int), ([] : List (Nat × Int))) = (-1 : Int) := by show (-1) + 0 = _; omega
  rw [show (st M (ctj r_716) (ev ρ ((6 : Int), ([(0, 1)] : List (Nat × Int)))).toNat (ev ρ (((-1) : Int), ([] : List (Nat × Int))))) = (st M 71 ((ρ 0) + 6).toNat (-1 : Int)) from by rw [ei, ew]; rfl]
  have H := cr_716 M (ρ 0) (hB _ List.mem_cons_self) (cvp 172 (x' := ((ρ 0))) (y' := (-1 : Int)) (by show 0 + (1 * ρ 0 + 0) = _; omega) (by show (-1) + 0 = _; omega) (hm _ List.mem_cons_self)) hG
  obtain ⟨k0, -⟩ := H
  exact ⟨_, List.mem_cons_self, ρ, fun _ _ => rfl, (okM_c (pvp 172 (by show 1 + (1 * ρ 0 + 0) = _; omega) (by show (-1) + 0 = _; omega) k0) okM_n), okB_n, okF_n⟩
-- fjx_71_1
theorem cr_717 (M : pM) (s0 s1 : Int) (b0 : 0 ≤ s0 ∧ s0 ≤ 6) (b1 : 0 ≤ s1 ∧ s1 ≤ 6) (m0 : HP 172 (s0) (-1 : Int) M) (f0 : 0 ≤ ((-1) * s0 + s1)) (f1 : 0 ≤ (s0 + (-1) * s1)) (hG : gI M) : (HP 172 (s1) (-1 : Int) M ∧ True) := by
  have e : s0 = s1 := by omega
  subst e
  exact ⟨m0, trivial⟩
theorem rul_717 : Rul r_717 := by
  refine ⟨fun _ ρ M hm hB hF hG => ?_, fun gi gv hg => (by cases hg)⟩
  have H := cr_717 M (ρ 0) (ρ 1) (hB _ List.mem_cons_self) (hB _ (List.mem_cons_of_mem _ List.mem_cons_self)) (cvp 172 (x' := ((ρ 0))) (y' := (-1 : Int)) (by show 0 + (1 * ρ 0 + 0) = _; omega) (by show (-1) + 0 = _; omega) (hm _ List.mem_cons_self)) (by have h := hF _ List.mem_cons_self; have h : 0 ≤ 0 + ((-1) * ρ 0 + (1 * ρ 1 + 0)) := h; omega) (by have h := hF _ (List.mem_cons_of_mem _ List.mem_cons_self); have h : 0 ≤ 0 + (1 * ρ 0 + ((-1) * ρ 1 + 0)) := h; omega) hG
  obtain ⟨k0, -⟩ := H
  exact ⟨_, List.mem_cons_self, ρ, fun _ _ => rfl, (okM_c (pvp 172 (by show 0 + (1 * ρ 1 + 0) = _; omega) (by show (-1) + 0 = _; omega) k0) okM_n), okB_n, okF_n⟩
-- fj0_72_1
theorem cr_718 (M : pM)  (hG : gI M) : (HP 173 (0 : Int) (0 : Int) M ∧ True) := by
  exact ⟨Eq.mpr hp_173 ⟨by decide, fun i hi => by omega⟩, trivial⟩
theorem rul_718 : Rul r_718 := by
  refine ⟨fun _ ρ M hm hB hF hG => ?_, fun gi gv hg => (by cases hg)⟩
  have H := cr_718 M hG
  obtain ⟨k0, -⟩ := H
  exact ⟨_, List.mem_cons_self, ρ, fun _ _ => rfl, (okM_c (pvp 173 (by show 0 + 0 = _; omega) (by show 0 + 0 = _; omega) k0) okM_n), okB_n, okF_n⟩
-- fjw_72_1
theorem cr_719 (M : pM) (s0 : Int) (b0 : 0 ≤ s0 ∧ s0 ≤ 5) (m0 : HP 173 (s0) (0 : Int) M) (hG : gI M) : (HP 173 (s0 + 1) (0 : Int) (st M 72 (s0 + 6).toNat (0 : Int)) ∧ True) := by
  refine ⟨Eq.mpr hp_173 ⟨by omega, fun i hi => ?_⟩, trivial⟩
  rw [show (s0 + 6).toNat = 6 + s0.toNat by omega, cw]
  by_cases e : i = s0.toNat
  · rw [if_pos e]
  · rw [if_neg e]; exact (Eq.mp hp_173 m0).2 i (by omega)
theorem rul_719 : Rul r_719 := by
  refine ⟨fun h => (by cases h), fun gi gv hg ρ M hm hB hF hG => ?_⟩
  obtain ⟨g1, g2⟩ := List.cons.inj (show ([aI ((6 : Int), ([(0, 1)] : List (Nat × Int))), aI ((0 : Int), ([] : List (Nat × Int)))] : List av) = [.inl gi, .inl gv] from hg)
  obtain ⟨g2, -⟩ := List.cons.inj g2
  cases g1
  cases g2
  have ei : ev ρ ((6 : Int), ([(0, 1)] : List (Nat × Int))) = ((ρ 0) + 6) := by show 6 + (1 * ρ 0 + 0) = _; omega
  have ew : ev ρ ((0 : Int), ([] : List (Nat × Int))) = (0 : Int) := by show 0 + 0 = _; omega
  rw [show (st M (ctj r_719) (ev ρ ((6 : Int), ([(0, 1)] : List (Nat × Int)))).toNat (ev ρ ((0 : Int), ([] : List (Nat × Int))))) = (st M 72 ((ρ 0) + 6).toNat (0 : Int)) from by rw [ei, ew]; rfl]
  have H := cr_719 M (ρ 0) (hB _ List.mem_cons_self) (cvp 173 (x' := ((ρ 0))) (y' := (0 : Int)) (by show 0 + (1 * ρ 0 + 0) = _; omega) (by show 0 + 0 = _; omega) (hm _ List.mem_cons_self)) hG
  obtain ⟨k0, -⟩ := H
  exact ⟨_, List.mem_cons_self, ρ, fun _ _ => rfl, (okM_c (pvp 173 (by show 1 + (1 * ρ 0 + 0) = _; omega) (by show 0 + 0 = _; omega) k0) okM_n), okB_n, okF_n⟩
-- fjx_72_1
theorem cr_720 (M : pM) (s0 s1 : Int) (b0 : 0 ≤ s0 ∧ s0 ≤ 6) (b1 : 0 ≤ s1 ∧ s1 ≤ 6) (m0 : HP 173 (s0) (0 : Int) M) (f0 : 0 ≤ ((-1) * s0 + s1)) (f1 : 0 ≤ (s0 + (-1) * s1)) (hG : gI M) : (HP 173 (s1) (0 : Int) M ∧ True) := by
  have e : s0 = s1 := by omega
  subst e
  exact ⟨m0, trivial⟩
theorem rul_720 : Rul r_720 := by
  refine ⟨fun _ ρ M hm hB hF hG => ?_, fun gi gv hg => (by cases hg)⟩
  have H := cr_720 M (ρ 0) (ρ 1) (hB _ List.mem_cons_self) (hB _ (List.mem_cons_of_mem _ List.mem_cons_self)) (cvp 173 (x' := ((ρ 0))) (y' := (0 : Int)) (by show 0 + (1 * ρ 0 + 0) = _; omega) (by show 0 + 0 = _; omega) (hm _ List.mem_cons_self)) (by have h := hF _ List.mem_cons_self; have h : 0 ≤ 0 + ((-1) * ρ 0 + (1 * ρ 1 + 0)) := h; omega) (by have h := hF _ (List.mem_cons_of_mem _ List.mem_cons_self); have h : 0 ≤ 0 + (1 * ρ 0 + ((-1) * ρ 1 + 0)) := h; omega) hG
  obtain ⟨k0, -⟩ := H
  exact ⟨_, List.mem_cons_self, ρ, fun _ _ => rfl, (okM_c (pvp 173 (by show 0 + (1 * ρ 1 + 0) = _; omega) (by show 0 + 0 = _; omega) k0) okM_n), okB_n, okF_n⟩
-- fj0_73_1
theorem cr_721 (M : pM)  (hG : gI M) : (HP 174 (0 : Int) (-1 : Int) M ∧ True) := by
  exact ⟨Eq.mpr hp_174 ⟨by decide, fun i hi => by omega⟩, trivial⟩
theorem rul_721 : Rul r_721 := by
  refine ⟨fun _ ρ M hm hB hF hG => ?_, fun gi gv hg => (by cases hg)⟩
  have H := cr_721 M hG
  obtain ⟨k0, -⟩ := H
  exact ⟨_, List.mem_cons_self, ρ, fun _ _ => rfl, (okM_c (pvp 174 (by show 0 + 0 = _; omega) (by show (-1) + 0 = _; omega) k0) okM_n), okB_n, okF_n⟩
-- fjw_73_1
theorem cr_722 (M : pM) (s0 : Int) (b0 : 0 ≤ s0 ∧ s0 ≤ 5) (m0 : HP 174 (s0) (-1 : Int) M) (hG : gI M) : (HP 174 (s0 + 1) (-1 : Int) (st M 73 (s0 + 6).toNat (-1 : Int)) ∧ True) := by
  refine ⟨Eq.mpr hp_174 ⟨by omega, fun i hi => ?_⟩, trivial⟩
  rw [show (s0 + 6).toNat = 6 + s0.toNat by omega, cw]
  by_cases e : i = s0.toNat
  · rw [if_pos e]
  · rw [if_neg e]; exact (Eq.mp hp_174 m0).2 i (by omega)
theorem rul_722 : Rul r_722 := by
  refine ⟨fun h => (by cases h), fun gi gv hg ρ M hm hB hF hG => ?_⟩
  obtain ⟨g1, g2⟩ := List.cons.inj (show ([aI ((6 : Int), ([(0, 1)] : List (Nat × Int))), aI (((-1) : Int), ([] : List (Nat × Int)))] : List av) = [.inl gi, .inl gv] from hg)
  obtain ⟨g2, -⟩ := List.cons.inj g2
  cases g1
  cases g2
  have ei : ev ρ ((6 : Int), ([(0, 1)] : List (Nat × Int))) = ((ρ 0) + 6) := by show 6 + (1 * ρ 0 + 0) = _; omega
  have ew : ev ρ (((-1) : Int), ([] : List (Nat × Int))) = (-1 : Int) := by show (-1) + 0 = _; omega
  rw [show (st M (ctj r_722) (ev ρ ((6 : Int), ([(0, 1)] : List (Nat × Int)))).toNat (ev ρ (((-1) : Int), ([] : List (Nat × Int))))) = (st M 73 ((ρ 0) + 6).toNat (-1 : Int)) from by rw [ei, ew]; rfl]
  have H := cr_722 M (ρ 0) (hB _ List.mem_cons_self) (cvp 174 (x' := ((ρ 0))) (y' := (-1 : Int)) (by show 0 + (1 * ρ 0 + 0) = _; omega) (by show (-1) + 0 = _; omega) (hm _ List.mem_cons_self)) hG
  obtain ⟨k0, -⟩ := H
  exact ⟨_, List.mem_cons_self, ρ, fun _ _ => rfl, (okM_c (pvp 174 (by show 1 + (1 * ρ 0 + 0) = _; omega) (by show (-1) + 0 = _; omega) k0) okM_n), okB_n, okF_n⟩
-- fjx_73_1
theorem cr_723 (M : pM) (s0 s1 : Int) (b0 : 0 ≤ s0 ∧ s0 ≤ 6) (b1 : 0 ≤ s1 ∧ s1 ≤ 6) (m0 : HP 174 (s0) (-1 : Int) M) (f0 : 0 ≤ ((-1) * s0 + s1)) (f1 : 0 ≤ (s0 + (-1) * s1)) (hG : gI M) : (HP 174 (s1) (-1 : Int) M ∧ True) := by
  have e : s0 = s1 := by omega
  subst e
  exact ⟨m0, trivial⟩
theorem rul_723 : Rul r_723 := by
  refine ⟨fun _ ρ M hm hB hF hG => ?_, fun gi gv hg => (by cases hg)⟩
  have H := cr_723 M (ρ 0) (ρ 1) (hB _ List.mem_cons_self) (hB _ (List.mem_cons_of_mem _ List.mem_cons_self)) (cvp 174 (x' := ((ρ 0))) (y' := (-1 : Int)) (by show 0 + (1 * ρ 0 + 0) = _; omega) (by show (-1) + 0 = _; omega) (hm _ List.mem_cons_self)) (by have h := hF _ List.mem_cons_self; have h : 0 ≤ 0 + ((-1) * ρ 0 + (1 * ρ 1 + 0)) := h; omega) (by have h := hF _ (List.mem_cons_of_mem _ List.mem_cons_self); have h : 0 ≤ 0 + (1 * ρ 0 + ((-1) * ρ 1 + 0)) := h; omega) hG
  obtain ⟨k0, -⟩ := H
  exact ⟨_, List.mem_cons_self, ρ, fun _ _ => rfl, (okM_c (pvp 174 (by show 0 + (1 * ρ 1 + 0) = _; omega) (by show (-1) + 0 = _; omega) k0) okM_n), okB_n, okF_n⟩
-- fj0_86_1
theorem cr_724 (M : pM)  (hG : gI M) : (HP 175 (0 : Int) (0 : Int) M ∧ True) := by
  exact ⟨Eq.mpr hp_175 ⟨by decide, fun i hi => by omega⟩, trivial⟩
theorem rul_724 : Rul r_724 := by
  refine ⟨fun _ ρ M hm hB hF hG => ?_, fun gi gv hg => (by cases hg)⟩
  have H := cr_724 M hG
  obtain ⟨k0, -⟩ := H
  exact ⟨_, List.mem_cons_self, ρ, fun _ _ => rfl, (okM_c (pvp 175 (by show 0 + 0 = _; omega) (by show 0 + 0 = _; omega) k0) okM_n), okB_n, okF_n⟩
-- fjw_86_1
theorem cr_725 (M : pM) (s0 : Int) (b0 : 0 ≤ s0 ∧ s0 ≤ 63) (m0 : HP 175 (s0) (0 : Int) M) (hG : gI M) : (HP 175 (s0 + 1) (0 : Int) (st M 86 (s0 + 64).toNat (0 : Int)) ∧ True) := by
  refine ⟨Eq.mpr hp_175 ⟨by omega, fun i hi => ?_⟩, trivial⟩
  rw [show (s0 + 64).toNat = 64 + s0.toNat by omega, cw]
  by_cases e : i = s0.toNat
  · rw [if_pos e]
  · rw [if_neg e]; exact (Eq.mp hp_175 m0).2 i (by omega)
theorem rul_725 : Rul r_725 := by
  refine ⟨fun h => (by cases h), fun gi gv hg ρ M hm hB hF hG => ?_⟩
  obtain ⟨g1, g2⟩ := List.cons.inj (show ([aI ((64 : Int), ([(0, 1)] : List (Nat × Int))), aI ((0 : Int), ([] : List (Nat × Int)))] : List av) = [.inl gi, .inl gv] from hg)
  obtain ⟨g2, -⟩ := List.cons.inj g2
  cases g1
  cases g2
  have ei : ev ρ ((64 : Int), ([(0, 1)] : List (Nat × Int))) = ((ρ 0) + 64) := by show 64 + (1 * ρ 0 + 0) = _; omega
  have ew : ev ρ ((0 : Int), ([] : List (Nat × Int))) = (0 : Int) := by show 0 + 0 = _; omega
  rw [show (st M (ctj r_725) (ev ρ ((64 : Int), ([(0, 1)] : List (Nat × Int)))).toNat (ev ρ ((0 : Int), ([] : List (Nat × Int))))) = (st M 86 ((ρ 0) + 64).toNat (0 : Int)) from by rw [ei, ew]; rfl]
  have H := cr_725 M (ρ 0) (hB _ List.mem_cons_self) (cvp 175 (x' := ((ρ 0))) (y' := (0 : Int)) (by show 0 + (1 * ρ 0 + 0) = _; omega) (by show 0 + 0 = _; omega) (hm _ List.mem_cons_self)) hG
  obtain ⟨k0, -⟩ := H
  exact ⟨_, List.mem_cons_self, ρ, fun _ _ => rfl, (okM_c (pvp 175 (by show 1 + (1 * ρ 0 + 0) = _; omega) (by show 0 + 0 = _; omega) k0) okM_n), okB_n, okF_n⟩
-- fjx_86_1
theorem cr_726 (M : pM) (s0 s1 : Int) (b0 : 0 ≤ s0 ∧ s0 ≤ 64) (b1 : 0 ≤ s1 ∧ s1 ≤ 64) (m0 : HP 175 (s0) (0 : Int) M) (f0 : 0 ≤ ((-1) * s0 + s1)) (f1 : 0 ≤ (s0 + (-1) * s1)) (hG : gI M) : (HP 175 (s1) (0 : Int) M ∧ True) := by
  have e : s0 = s1 := by omega
  subst e
  exact ⟨m0, trivial⟩
theorem rul_726 : Rul r_726 := by
  refine ⟨fun _ ρ M hm hB hF hG => ?_, fun gi gv hg => (by cases hg)⟩
  have H := cr_726 M (ρ 0) (ρ 1) (hB _ List.mem_cons_self) (hB _ (List.mem_cons_of_mem _ List.mem_cons_self)) (cvp 175 (x' := ((ρ 0))) (y' := (0 : Int)) (by show 0 + (1 * ρ 0 + 0) = _; omega) (by show 0 + 0 = _; omega) (hm _ List.mem_cons_self)) (by have h := hF _ List.mem_cons_self; have h : 0 ≤ 0 + ((-1) * ρ 0 + (1 * ρ 1 + 0)) := h; omega) (by have h := hF _ (List.mem_cons_of_mem _ List.mem_cons_self); have h : 0 ≤ 0 + (1 * ρ 0 + ((-1) * ρ 1 + 0)) := h; omega) hG
  obtain ⟨k0, -⟩ := H
  exact ⟨_, List.mem_cons_self, ρ, fun _ _ => rfl, (okM_c (pvp 175 (by show 0 + (1 * ρ 1 + 0) = _; omega) (by show 0 + 0 = _; omega) k0) okM_n), okB_n, okF_n⟩
-- fj0_84_1
theorem cr_727 (M : pM)  (hG : gI M) : (HP 176 (0 : Int) (0 : Int) M ∧ True) := by
  exact ⟨Eq.mpr hp_176 ⟨by decide, fun i hi => by omega⟩, trivial⟩
theorem rul_727 : Rul r_727 := by
  refine ⟨fun _ ρ M hm hB hF hG => ?_, fun gi gv hg => (by cases hg)⟩
  have H := cr_727 M hG
  obtain ⟨k0, -⟩ := H
  exact ⟨_, List.mem_cons_self, ρ, fun _ _ => rfl, (okM_c (pvp 176 (by show 0 + 0 = _; omega) (by show 0 + 0 = _; omega) k0) okM_n), okB_n, okF_n⟩
-- fjw_84_1
theorem cr_728 (M : pM) (s0 : Int) (b0 : 0 ≤ s0 ∧ s0 ≤ 7) (m0 : HP 176 (s0) (0 : Int) M) (hG : gI M) : (HP 176 (s0 + 1) (0 : Int) (st M 84 (s0).toNat (0 : Int)) ∧ True) := by
  refine ⟨Eq.mpr hp_176 ⟨by omega, fun i hi => ?_⟩, trivial⟩
  rw [show (s0).toNat = 0 + s0.toNat by omega, cw]
  by_cases e : i = s0.toNat
  · rw [if_pos e]
  · rw [if_neg e]; exact (Eq.mp hp_176 m0).2 i (by omega)
theorem rul_728 : Rul r_728 := by
  refine ⟨fun h => (by cases h), fun gi gv hg ρ M hm hB hF hG => ?_⟩
  obtain ⟨g1, g2⟩ := List.cons.inj (show ([aI ((0 : Int), ([(0, 1)] : List (Nat × Int))), aI ((0 : Int), ([] : List (Nat × Int)))] : List av) = [.inl gi, .inl gv] from hg)
  obtain ⟨g2, -⟩ := List.cons.inj g2
  cases g1
  cases g2
  have ei : ev ρ ((0 : Int), ([(0, 1)] : List (Nat × Int))) = ((ρ 0)) := by show 0 + (1 * ρ 0 + 0) = _; omega
  have ew : ev ρ ((0 : Int), ([] : List (Nat × Int))) = (0 : Int) := by show 0 + 0 = _; omega
  rw [show (st M (ctj r_728) (ev ρ ((0 : Int), ([(0, 1)] : List (Nat × Int)))).toNat (ev ρ ((0 : Int), ([] : List (Nat × Int))))) = (st M 84 ((ρ 0)).toNat (0 : Int)) from by rw [ei, ew]; rfl]
  have H := cr_728 M (ρ 0) (hB _ List.mem_cons_self) (cvp 176 (x' := ((ρ 0))) (y' := (0 : Int)) (by show 0 + (1 * ρ 0 + 0) = _; omega) (by show 0 + 0 = _; omega) (hm _ List.mem_cons_self)) hG
  obtain ⟨k0, -⟩ := H
  exact ⟨_, List.mem_cons_self, ρ, fun _ _ => rfl, (okM_c (pvp 176 (by show 1 + (1 * ρ 0 + 0) = _; omega) (by show 0 + 0 = _; omega) k0) okM_n), okB_n, okF_n⟩
-- fjx_84_1
theorem cr_729 (M : pM) (s0 s1 : Int) (b0 : 0 ≤ s0 ∧ s0 ≤ 8) (b1 : 0 ≤ s1 ∧ s1 ≤ 8) (m0 : HP 176 (s0) (0 : Int) M) (f0 : 0 ≤ ((-1) * s0 + s1)) (f1 : 0 ≤ (s0 + (-1) * s1)) (hG : gI M) : (HP 176 (s1) (0 : Int) M ∧ True) := by
  have e : s0 = s1 := by omega
  subst e
  exact ⟨m0, trivial⟩
theorem rul_729 : Rul r_729 := by
  refine ⟨fun _ ρ M hm hB hF hG => ?_, fun gi gv hg => (by cases hg)⟩
  have H := cr_729 M (ρ 0) (ρ 1) (hB _ List.mem_cons_self) (hB _ (List.mem_cons_of_mem _ List.mem_cons_self)) (cvp 176 (x' := ((ρ 0))) (y' := (0 : Int)) (by show 0 + (1 * ρ 0 + 0) = _; omega) (by show 0 + 0 = _; omega) (hm _ List.mem_cons_self)) (by have h := hF _ List.mem_cons_self; have h : 0 ≤ 0 + ((-1) * ρ 0 + (1 * ρ 1 + 0)) := h; omega) (by have h := hF _ (List.mem_cons_of_mem _ List.mem_cons_self); have h : 0 ≤ 0 + (1 * ρ 0 + ((-1) * ρ 1 + 0)) := h; omega) hG
  obtain ⟨k0, -⟩ := H
  exact ⟨_, List.mem_cons_self, ρ, fun _ _ => rfl, (okM_c (pvp 176 (by show 0 + (1 * ρ 1 + 0) = _; omega) (by show 0 + 0 = _; omega) k0) okM_n), okB_n, okF_n⟩
-- fj0_85_1
theorem cr_730 (M : pM)  (hG : gI M) : (HP 177 (0 : Int) (0 : Int) M ∧ True) := by
  exact ⟨Eq.mpr hp_177 ⟨by decide, fun i hi => by omega⟩, trivial⟩
theorem rul_730 : Rul r_730 := by
  refine ⟨fun _ ρ M hm hB hF hG => ?_, fun gi gv hg => (by cases hg)⟩
  have H := cr_730 M hG
  obtain ⟨k0, -⟩ := H
  exact ⟨_, List.mem_cons_self, ρ, fun _ _ => rfl, (okM_c (pvp 177 (by show 0 + 0 = _; omega) (by show 0 + 0 = _; omega) k0) okM_n), okB_n, okF_n⟩
-- fjw_85_1
theorem cr_731 (M : pM) (s0 : Int) (b0 : 0 ≤ s0 ∧ s0 ≤ 7) (m0 : HP 177 (s0) (0 : Int) M) (hG : gI M) : (HP 177 (s0 + 1) (0 : Int) (st M 85 (s0).toNat (0 : Int)) ∧ True) := by
  refine ⟨Eq.mpr hp_177 ⟨by omega, fun i hi => ?_⟩, trivial⟩
  rw [show (s0).toNat = 0 + s0.toNat by omega, cw]
  by_cases e : i = s0.toNat
  · rw [if_pos e]
  · rw [if_neg e]; exact (Eq.mp hp_177 m0).2 i (by omega)
theorem rul_731 : Rul r_731 := by
  refine ⟨fun h => (by cases h), fun gi gv hg ρ M hm hB hF hG => ?_⟩
  obtain ⟨g1, g2⟩ := List.cons.inj (show ([aI ((0 : Int), ([(0, 1)] : List (Nat × Int))), aI ((0 : Int), ([] : List (Nat × Int)))] : List av) = [.inl gi, .inl gv] from hg)
  obtain ⟨g2, -⟩ := List.cons.inj g2
  cases g1
  cases g2
  have ei : ev ρ ((0 : Int), ([(0, 1)] : List (Nat × Int))) = ((ρ 0)) := by show 0 + (1 * ρ 0 + 0) = _; omega
  have ew : ev ρ ((0 : Int), ([] : List (Nat × Int))) = (0 : Int) := by show 0 + 0 = _; omega
  rw [show (st M (ctj r_731) (ev ρ ((0 : Int), ([(0, 1)] : List (Nat × Int)))).toNat (ev ρ ((0 : Int), ([] : List (Nat × Int))))) = (st M 85 ((ρ 0)).toNat (0 : Int)) from by rw [ei, ew]; rfl]
  have H := cr_731 M (ρ 0) (hB _ List.mem_cons_self) (cvp 177 (x' := ((ρ 0))) (y' := (0 : Int)) (by show 0 + (1 * ρ 0 + 0) = _; omega) (by show 0 + 0 = _; omega) (hm _ List.mem_cons_self)) hG
  obtain ⟨k0, -⟩ := H
  exact ⟨_, List.mem_cons_self, ρ, fun _ _ => rfl, (okM_c (pvp 177 (by show 1 + (1 * ρ 0 + 0) = _; omega) (by show 0 + 0 = _; omega) k0) okM_n), okB_n, okF_n⟩
-- fjx_85_1
theorem cr_732 (M : pM) (s0 s1 : Int) (b0 : 0 ≤ s0 ∧ s0 ≤ 8) (b1 : 0 ≤ s1 ∧ s1 ≤ 8) (m0 : HP 177 (s0) (0 : Int) M) (f0 : 0 ≤ ((-1) * s0 + s1)) (f1 : 0 ≤ (s0 + (-1) * s1)) (hG : gI M) : (HP 177 (s1) (0 : Int) M ∧ True) := by
  have e : s0 = s1 := by omega
  subst e
  exact ⟨m0, trivial⟩
theorem rul_732 : Rul r_732 := by
  refine ⟨fun _ ρ M hm hB hF hG => ?_, fun gi gv hg => (by cases hg)⟩
  have H := cr_732 M (ρ 0) (ρ 1) (hB _ List.mem_cons_self) (hB _ (List.mem_cons_of_mem _ List.mem_cons_self)) (cvp 177 (x' := ((ρ 0))) (y' := (0 : Int)) (by show 0 + (1 * ρ 0 + 0) = _; omega) (by show 0 + 0 = _; omega) (hm _ List.mem_cons_self)) (by have h := hF _ List.mem_cons_self; have h : 0 ≤ 0 + ((-1) * ρ 0 + (1 * ρ 1 + 0)) := h; omega) (by have h := hF _ (List.mem_cons_of_mem _ List.mem_cons_self); have h : 0 ≤ 0 + (1 * ρ 0 + ((-1) * ρ 1 + 0)) := h; omega) hG
  obtain ⟨k0, -⟩ := H
  exact ⟨_, List.mem_cons_self, ρ, fun _ _ => rfl, (okM_c (pvp 177 (by show 0 + (1 * ρ 1 + 0) = _; omega) (by show 0 + 0 = _; omega) k0) okM_n), okB_n, okF_n⟩
-- ra0_1
theorem cr_733 (M : pM) (m0 : HP 170 (64 : Int) (0 : Int) M) (m1 : HP 171 (48 : Int) (0 : Int) M) (m2 : HP 172 (6 : Int) (-1 : Int) M) (m3 : HP 173 (6 : Int) (0 : Int) M) (m4 : HP 174 (6 : Int) (-1 : Int) M) (m5 : HP 175 (64 : Int) (0 : Int) M) (m6 : HP 176 (8 : Int) (0 : Int) M) (m7 : HP 177 (8 : Int) (0 : Int) M) (hG : gI M) : (HP 61 (0 : Int) (0 : Int) M ∧ True) := by
  have q0 : qat (tm M) 0 (0, qA0) := ⟨0, by decide, by decide, rfl⟩
  refine ⟨Eq.mpr hp_61 ⟨(0, qA0), q0, ⟨by decide, by decide, by decide, by decide⟩, ?_⟩, trivial⟩
  refine ⟨fun i hi => by have h := (Eq.mp hp_170 m0).2 i (by omega); exact h, fun i hi => by have h := (Eq.mp hp_171 m1).2 i (by omega); exact h, fun i hi => by have h := (Eq.mp hp_172 m2).2 i (by omega); exact h, fun i hi => by have h := (Eq.mp hp_173 m3).2 i (by omega); exact h, fun i hi => by have h := (Eq.mp hp_174 m4).2 i (by omega); exact h, fun i hi hw => ?_, fun i hi hw => ?_, fun i j hi hj hw => ?_, fun i hi hw => ?_, fun i hi hw => ?_, fun i hi => by have h := (Eq.mp hp_176 m6).2 i (by omega); rw [Nat.zero_add] at h; exact h, fun i hi => by have h := (Eq.mp hp_177 m7).2 i (by omega); rw [Nat.zero_add] at h; exact h, fun i hi => by have h := (Eq.mp hp_175 m5).2 i (by omega); exact h⟩
  all_goals (have hw : (i : Int) < 0 := hw; omega)
theorem rul_733 : Rul r_733 := by
  refine ⟨fun _ ρ M hm hB hF hG => ?_, fun gi gv hg => (by cases hg)⟩
  have H := cr_733 M (cvp 170 (x' := (64 : Int)) (y' := (0 : Int)) (by show 64 + 0 = _; omega) (by show 0 + 0 = _; omega) (hm _ List.mem_cons_self)) (cvp 171 (x' := (48 : Int)) (y' := (0 : Int)) (by show 48 + 0 = _; omega) (by show 0 + 0 = _; omega) (hm _ (List.mem_cons_of_mem _ List.mem_cons_self))) (cvp 172 (x' := (6 : Int)) (y' := (-1 : Int)) (by show 6 + 0 = _; omega) (by show (-1) + 0 = _; omega) (hm _ (List.mem_cons_of_mem _ (List.mem_cons_of_mem _ List.mem_cons_self)))) (cvp 173 (x' := (6 : Int)) (y' := (0 : Int)) (by show 6 + 0 = _; omega) (by show 0 + 0 = _; omega) (hm _ (List.mem_cons_of_mem _ (List.mem_cons_of_mem _ (List.mem_cons_of_mem _ List.mem_cons_self))))) (cvp 174 (x' := (6 : Int)) (y' := (-1 : Int)) (by show 6 + 0 = _; omega) (by show (-1) + 0 = _; omega) (hm _ (List.mem_cons_of_mem _ (List.mem_cons_of_mem _ (List.mem_cons_of_mem _ (List.mem_cons_of_mem _ List.mem_cons_self)))))) (cvp 175 (x' := (64 : Int)) (y' := (0 : Int)) (by show 64 + 0 = _; omega) (by show 0 + 0 = _; omega) (hm _ (List.mem_cons_of_mem _ (List.mem_cons_of_mem _ (List.mem_cons_of_mem _ (List.mem_cons_of_mem _ (List.mem_cons_of_mem _ List.mem_cons_self))))))) (cvp 176 (x' := (8 : Int)) (y' := (0 : Int)) (by show 8 + 0 = _; omega) (by show 0 + 0 = _; omega) (hm _ (List.mem_cons_of_mem _ (List.mem_cons_of_mem _ (List.mem_cons_of_mem _ (List.mem_cons_of_mem _ (List.mem_cons_of_mem _ (List.mem_cons_of_mem _ List.mem_cons_self)))))))) (cvp 177 (x' := (8 : Int)) (y' := (0 : Int)) (by show 8 + 0 = _; omega) (by show 0 + 0 = _; omega) (hm _ (List.mem_cons_of_mem _ (List.mem_cons_of_mem _ (List.mem_cons_of_mem _ (List.mem_cons_of_mem _ (List.mem_cons_of_mem _ (List.mem_cons_of_mem _ (List.mem_cons_of_mem _ List.mem_cons_self))))))))) hG
  obtain ⟨k0, -⟩ := H
  exact ⟨_, List.mem_cons_self, ρ, fun _ _ => rfl, (okM_c (pvp 61 (by show 0 + 0 = _; omega) (by show 0 + 0 = _; omega) k0) okM_n), okB_n, okF_n⟩
-- tc0
theorem cr_734 (M : pM)  (hG : gI M) : (HP 158 (0 : Int) (0 : Int) M ∧ True) := by
  exact ⟨Eq.mpr hp_158 ⟨by decide, by decide, fun i hi => by omega⟩, trivial⟩
theorem rul_734 : Rul r_734 := by
  refine ⟨fun _ ρ M hm hB hF hG => ?_, fun gi gv hg => (by cases hg)⟩
  have H := cr_734 M hG
  obtain ⟨k0, -⟩ := H
  exact ⟨_, List.mem_cons_self, ρ, fun _ _ => rfl, (okM_c (pvp 158 (by show 0 + 0 = _; omega) (by show 0 + 0 = _; omega) k0) okM_n), okB_n, okF_n⟩
-- tcw
theorem cr_735 (M : pM) (s0 s1 : Int) (b0 : 0 ≤ s0 ∧ s0 ≤ 1900) (b1 : (-128) ≤ s1 ∧ s1 ≤ 127) (m0 : HP 158 (s0) (0 : Int) M) (m1 : (0 ≤ (s0) ∧ M 62 (s0).toNat = (s1))) (hG : gI M) : (HP 158 (s0 + 1) (0 : Int) (st M 63 (s0).toNat (s1)) ∧ True) := by
  obtain ⟨h1, h2, h3⟩ := Eq.mp hp_158 m0
  refine ⟨Eq.mpr hp_158 ⟨by omega, by omega, fun i hi => ?_⟩, trivial⟩
  rw [cw0, show st M 63 (s0).toNat (s1) 62 i = M 62 i from if_neg (fun h => absurd h.1 (by decide))]
  by_cases e : i = s0.toNat
  · rw [if_pos e, e]; exact m1.2.symm
  · rw [if_neg e]; exact h3 i (by omega)
theorem rul_735 : Rul r_735 := by
  refine ⟨fun h => (by cases h), fun gi gv hg ρ M hm hB hF hG => ?_⟩
  obtain ⟨g1, g2⟩ := List.cons.inj (show ([aI ((0 : Int), ([(0, 1)] : List (Nat × Int))), aI ((0 : Int), ([(1, 1)] : List (Nat × Int)))] : List av) = [.inl gi, .inl gv] from hg)
  obtain ⟨g2, -⟩ := List.cons.inj g2
  cases g1
  cases g2
  have ei : ev ρ ((0 : Int), ([(0, 1)] : List (Nat × Int))) = ((ρ 0)) := by show 0 + (1 * ρ 0 + 0) = _; omega
  have ew : ev ρ ((0 : Int), ([(1, 1)] : List (Nat × Int))) = ((ρ 1)) := by show 0 + (1 * ρ 1 + 0) = _; omega
  rw [show (st M (ctj r_735) (ev ρ ((0 : Int), ([(0, 1)] : List (Nat × Int)))).toNat (ev ρ ((0 : Int), ([(1, 1)] : List (Nat × Int))))) = (st M 63 ((ρ 0)).toNat ((ρ 1))) from by rw [ei, ew]; rfl]
  have H := cr_735 M (ρ 0) (ρ 1) (hB _ List.mem_cons_self) (hB _ (List.mem_cons_of_mem _ List.mem_cons_self)) (cvp 158 (x' := ((ρ 0))) (y' := (0 : Int)) (by show 0 + (1 * ρ 0 + 0) = _; omega) (by show 0 + 0 = _; omega) (hm _ List.mem_cons_self)) (cvm (c := 62) (by decide) (x' := ((ρ 0))) (y' := ((ρ 1))) (by show 0 + (1 * ρ 0 + 0) = _; omega) (by show 0 + (1 * ρ 1 + 0) = _; omega) (hm _ (List.mem_cons_of_mem _ List.mem_cons_self))) hG
  obtain ⟨k0, -⟩ := H
  exact ⟨_, List.mem_cons_self, ρ, fun _ _ => rfl, (okM_c (pvp 158 (by show 1 + (1 * ρ 0 + 0) = _; omega) (by show 0 + 0 = _; omega) k0) okM_n), okB_n, okF_n⟩
-- trm
theorem cr_736 (M : pM) (s0 s1 : Int) (b0 : 0 ≤ s0 ∧ s0 ≤ 1900) (b1 : 0 ≤ s1 ∧ s1 ≤ 1900) (m0 : HP 158 (s0) (0 : Int) M) (m1 : HP 41 (s1) (0 : Int) M) (m2 : (0 ≤ (3 : Int) ∧ M 61 (3 : Int).toNat = (s1))) (m3 : (0 ≤ (1 : Int) ∧ M 2 (1 : Int).toNat = (s1))) (f0 : 0 ≤ (s0 + (-1) * s1)) (hG : gI M) : (HP 42 (0 : Int) (0 : Int) M ∧ True) := by
  obtain ⟨h1, h2, h3⟩ := Eq.mp hp_158 m0
  obtain ⟨g1, g2, g3⟩ := Eq.mp hp_41 m1
  have e3 : M 61 3 = s1 := m2.2
  have e1 : M 2 1 = s1 := m3.2
  refine ⟨Eq.mpr hp_42 ⟨by omega, by omega, by omega, fun i hi => ?_⟩, trivial⟩
  unfold tN at hi
  rw [h3 i (by omega)]
  exact g3 i (by omega)
theorem rul_736 : Rul r_736 := by
  refine ⟨fun _ ρ M hm hB hF hG => ?_, fun gi gv hg => (by cases hg)⟩
  have H := cr_736 M (ρ 0) (ρ 1) (hB _ List.mem_cons_self) (hB _ (List.mem_cons_of_mem _ List.mem_cons_self)) (cvp 158 (x' := ((ρ 0))) (y' := (0 : Int)) (by show 0 + (1 * ρ 0 + 0) = _; omega) (by show 0 + 0 = _; omega) (hm _ List.mem_cons_self)) (cvp 41 (x' := ((ρ 1))) (y' := (0 : Int)) (by show 0 + (1 * ρ 1 + 0) = _; omega) (by show 0 + 0 = _; omega) (hm _ (List.mem_cons_of_mem _ List.mem_cons_self))) (cvm (c := 61) (by decide) (x' := (3 : Int)) (y' := ((ρ 1))) (by show 3 + 0 = _; omega) (by show 0 + (1 * ρ 1 + 0) = _; omega) (hm _ (List.mem_cons_of_mem _ (List.mem_cons_of_mem _ List.mem_cons_self)))) (cvm (c := 2) (by decide) (x' := (1 : Int)) (y' := ((ρ 1))) (by show 1 + 0 = _; omega) (by show 0 + (1 * ρ 1 + 0) = _; omega) (hm _ (List.mem_cons_of_mem _ (List.mem_cons_of_mem _ (List.mem_cons_of_mem _ List.mem_cons_self))))) (by have h := hF _ List.mem_cons_self; have h : 0 ≤ 0 + (1 * ρ 0 + ((-1) * ρ 1 + 0)) := h; omega) hG
  obtain ⟨k0, -⟩ := H
  exact ⟨_, List.mem_cons_self, ρ, fun _ _ => rfl, (okM_c (pvp 42 (by show 0 + 0 = _; omega) (by show 0 + 0 = _; omega) k0) okM_n), okB_n, okF_n⟩
-- same_ok0
theorem cr_737 (M : pM) (s0 s1 s2 s3 : Int) (b0 : 0 ≤ s0 ∧ s0 ≤ 950) (b1 : 0 ≤ s1 ∧ s1 ≤ 950) (b2 : 0 ≤ s2 ∧ s2 ≤ 5000) (b3 : 0 ≤ s3 ∧ s3 ≤ 5000) (m0 : HP 58 (s0) (s2) M) (m1 : HP 64 (s1) (s3) M) (hG : gI M) : (0 ≤ ((-1) * s0 + s1) ∧ 0 ≤ (s0 + (-1) * s1) ∧ 0 ≤ ((-1) * s2 + s3) ∧ 0 ≤ (s2 + (-1) * s3) ∧ True) := by
  obtain ⟨⟨l, s, h1, h2, h3, h4, h5⟩, _⟩ := Eq.mp hp_58 m0
  obtain ⟨⟨l', t, k1, k2, k3, k4, k5⟩, _⟩ := Eq.mp hp_64 m1
  obtain ⟨e1, e2⟩ := stuck_u h2 (end_nx h3).1 k2 (end_nx k3).1
  subst e2
  have w1 := h4.1
  have w2 := k4.1
  exact ⟨by omega, by omega, by omega, by omega, trivial⟩
theorem rul_737 : Rul r_737 := by
  refine ⟨fun _ ρ M hm hB hF hG => ?_, fun gi gv hg => (by cases hg)⟩
  have H := cr_737 M (ρ 0) (ρ 1) (ρ 2) (ρ 3) (hB _ List.mem_cons_self) (hB _ (List.mem_cons_of_mem _ List.mem_cons_self)) (hB _ (List.mem_cons_of_mem _ (List.mem_cons_of_mem _ List.mem_cons_self))) (hB _ (List.mem_cons_of_mem _ (List.mem_cons_of_mem _ (List.mem_cons_of_mem _ List.mem_cons_self)))) (cvp 58 (x' := ((ρ 0))) (y' := ((ρ 2))) (by show 0 + (1 * ρ 0 + 0) = _; omega) (by show 0 + (1 * ρ 2 + 0) = _; omega) (hm _ List.mem_cons_self)) (cvp 64 (x' := ((ρ 1))) (y' := ((ρ 3))) (by show 0 + (1 * ρ 1 + 0) = _; omega) (by show 0 + (1 * ρ 3 + 0) = _; omega) (hm _ (List.mem_cons_of_mem _ List.mem_cons_self))) hG
  obtain ⟨f0, f1, f2, f3, -⟩ := H
  exact ⟨_, List.mem_cons_self, ρ, fun _ _ => rfl, okM_n, okB_n, (okF_c (by show 0 ≤ 0 + ((-1) * ρ 0 + (1 * ρ 1 + 0)); omega) (okF_c (by show 0 ≤ 0 + (1 * ρ 0 + ((-1) * ρ 1 + 0)); omega) (okF_c (by show 0 ≤ 0 + ((-1) * ρ 2 + (1 * ρ 3 + 0)); omega) (okF_c (by show 0 ≤ 0 + (1 * ρ 2 + ((-1) * ρ 3 + 0)); omega) okF_n))))⟩
-- dead1_0
theorem cr_738 (M : pM) (s0 s1 s2 s3 : Int) (b0 : 0 ≤ s0 ∧ s0 ≤ 950) (b1 : 0 ≤ s1 ∧ s1 ≤ 5000) (b2 : (-2147483648) ≤ s2 ∧ s2 ≤ 2147483647) (b3 : 1 ≤ s3 ∧ s3 ≤ 5) (m0 : HP 58 (s0) (s1) M) (m1 : HP 66 (s2) (s3) M) (hG : gI M) : (0 ≤ (s3 - 6) ∧ True) := by
  obtain ⟨⟨l, s, h1, h2, h3, h4, h5⟩, _⟩ := Eq.mp hp_58 m0
  obtain ⟨l', t, k1, k2⟩ := Eq.mp hp_66 m1
  obtain ⟨e1, e2⟩ := stuck_u h2 (end_nx h3).1 k1 (fa_nx k2)
  subst e2
  rw [(end_nx h3).2] at k2
  cases k2
theorem rul_738 : Rul r_738 := by
  refine ⟨fun _ ρ M hm hB hF hG => ?_, fun gi gv hg => (by cases hg)⟩
  have H := cr_738 M (ρ 0) (ρ 1) (ρ 2) (ρ 3) (hB _ List.mem_cons_self) (hB _ (List.mem_cons_of_mem _ List.mem_cons_self)) (hB _ (List.mem_cons_of_mem _ (List.mem_cons_of_mem _ List.mem_cons_self))) (hB _ (List.mem_cons_of_mem _ (List.mem_cons_of_mem _ (List.mem_cons_of_mem _ List.mem_cons_self)))) (cvp 58 (x' := ((ρ 0))) (y' := ((ρ 1))) (by show 0 + (1 * ρ 0 + 0) = _; omega) (by show 0 + (1 * ρ 1 + 0) = _; omega) (hm _ List.mem_cons_self)) (cvp 66 (x' := ((ρ 2))) (y' := ((ρ 3))) (by show 0 + (1 * ρ 2 + 0) = _; omega) (by show 0 + (1 * ρ 3 + 0) = _; omega) (hm _ (List.mem_cons_of_mem _ List.mem_cons_self))) hG
  obtain ⟨f0, -⟩ := H
  exact ⟨_, List.mem_cons_self, ρ, fun _ _ => rfl, okM_n, okB_n, (okF_c (by show 0 ≤ (-6) + (1 * ρ 3 + 0); omega) okF_n)⟩
-- dead2_0
theorem cr_739 (M : pM) (s0 s1 s2 s3 : Int) (b0 : 0 ≤ s0 ∧ s0 ≤ 950) (b1 : 0 ≤ s1 ∧ s1 ≤ 5000) (b2 : (-2147483648) ≤ s2 ∧ s2 ≤ 2147483647) (b3 : 1 ≤ s3 ∧ s3 ≤ 5) (m0 : HP 64 (s0) (s1) M) (m1 : HP 66 (s2) (s3) M) (hG : gI M) : (0 ≤ (s3 - 6) ∧ True) := by
  obtain ⟨⟨l, s, h1, h2, h3, h4, h5⟩, _⟩ := Eq.mp hp_64 m0
  obtain ⟨l', t, k1, k2⟩ := Eq.mp hp_66 m1
  obtain ⟨e1, e2⟩ := stuck_u h2 (end_nx h3).1 k1 (fa_nx k2)
  subst e2
  rw [(end_nx h3).2] at k2
  cases k2
theorem rul_739 : Rul r_739 := by
  refine ⟨fun _ ρ M hm hB hF hG => ?_, fun gi gv hg => (by cases hg)⟩
  have H := cr_739 M (ρ 0) (ρ 1) (ρ 2) (ρ 3) (hB _ List.mem_cons_self) (hB _ (List.mem_cons_of_mem _ List.mem_cons_self)) (hB _ (List.mem_cons_of_mem _ (List.mem_cons_of_mem _ List.mem_cons_self))) (hB _ (List.mem_cons_of_mem _ (List.mem_cons_of_mem _ (List.mem_cons_of_mem _ List.mem_cons_self)))) (cvp 64 (x' := ((ρ 0))) (y' := ((ρ 1))) (by show 0 + (1 * ρ 0 + 0) = _; omega) (by show 0 + (1 * ρ 1 + 0) = _; omega) (hm _ List.mem_cons_self)) (cvp 66 (x' := ((ρ 2))) (y' := ((ρ 3))) (by show 0 + (1 * ρ 2 + 0) = _; omega) (by show 0 + (1 * ρ 3 + 0) = _; omega) (hm _ (List.mem_cons_of_mem _ List.mem_cons_self))) hG
  obtain ⟨f0, -⟩ := H
  exact ⟨_, List.mem_cons_self, ρ, fun _ _ => rfl, okM_n, okB_n, (okF_c (by show 0 ≤ (-6) + (1 * ρ 3 + 0); omega) okF_n)⟩
-- same_ok1
theorem cr_740 (M : pM) (s0 s1 s2 s3 : Int) (b0 : 0 ≤ s0 ∧ s0 ≤ 950) (b1 : 0 ≤ s1 ∧ s1 ≤ 950) (b2 : 0 ≤ s2 ∧ s2 ≤ 5000) (b3 : 0 ≤ s3 ∧ s3 ≤ 5000) (m0 : HP 59 (s0) (s2) M) (m1 : HP 65 (s1) (s3) M) (hG : gI M) : (0 ≤ ((-1) * s0 + s1) ∧ 0 ≤ (s0 + (-1) * s1) ∧ 0 ≤ ((-1) * s2 + s3) ∧ 0 ≤ (s2 + (-1) * s3) ∧ True) := by
  obtain ⟨⟨l, s, h1, h2, h3, h4, h5⟩, _⟩ := Eq.mp hp_59 m0
  obtain ⟨⟨l', t, k1, k2, k3, k4, k5⟩, _⟩ := Eq.mp hp_65 m1
  obtain ⟨e1, e2⟩ := stuck_u h2 (end_nx h3).1 k2 (end_nx k3).1
  subst e2
  have w1 := h4.1
  have w2 := k4.1
  exact ⟨by omega, by omega, by omega, by omega, trivial⟩
theorem rul_740 : Rul r_740 := by
  refine ⟨fun _ ρ M hm hB hF hG => ?_, fun gi gv hg => (by cases hg)⟩
  have H := cr_740 M (ρ 0) (ρ 1) (ρ 2) (ρ 3) (hB _ List.mem_cons_self) (hB _ (List.mem_cons_of_mem _ List.mem_cons_self)) (hB _ (List.mem_cons_of_mem _ (List.mem_cons_of_mem _ List.mem_cons_self))) (hB _ (List.mem_cons_of_mem _ (List.mem_cons_of_mem _ (List.mem_cons_of_mem _ List.mem_cons_self)))) (cvp 59 (x' := ((ρ 0))) (y' := ((ρ 2))) (by show 0 + (1 * ρ 0 + 0) = _; omega) (by show 0 + (1 * ρ 2 + 0) = _; omega) (hm _ List.mem_cons_self)) (cvp 65 (x' := ((ρ 1))) (y' := ((ρ 3))) (by show 0 + (1 * ρ 1 + 0) = _; omega) (by show 0 + (1 * ρ 3 + 0) = _; omega) (hm _ (List.mem_cons_of_mem _ List.mem_cons_self))) hG
  obtain ⟨f0, f1, f2, f3, -⟩ := H
  exact ⟨_, List.mem_cons_self, ρ, fun _ _ => rfl, okM_n, okB_n, (okF_c (by show 0 ≤ 0 + ((-1) * ρ 0 + (1 * ρ 1 + 0)); omega) (okF_c (by show 0 ≤ 0 + (1 * ρ 0 + ((-1) * ρ 1 + 0)); omega) (okF_c (by show 0 ≤ 0 + ((-1) * ρ 2 + (1 * ρ 3 + 0)); omega) (okF_c (by show 0 ≤ 0 + (1 * ρ 2 + ((-1) * ρ 3 + 0)); omega) okF_n))))⟩
-- dead1_1
theorem cr_741 (M : pM) (s0 s1 s2 s3 : Int) (b0 : 0 ≤ s0 ∧ s0 ≤ 950) (b1 : 0 ≤ s1 ∧ s1 ≤ 5000) (b2 : (-2147483648) ≤ s2 ∧ s2 ≤ 2147483647) (b3 : 1 ≤ s3 ∧ s3 ≤ 5) (m0 : HP 59 (s0) (s1) M) (m1 : HP 66 (s2) (s3) M) (hG : gI M) : (0 ≤ (s3 - 6) ∧ True) := by
  obtain ⟨⟨l, s, h1, h2, h3, h4, h5⟩, _⟩ := Eq.mp hp_59 m0
  obtain ⟨l', t, k1, k2⟩ := Eq.mp hp_66 m1
  obtain ⟨e1, e2⟩ := stuck_u h2 (end_nx h3).1 k1 (fa_nx k2)
  subst e2
  rw [(end_nx h3).2] at k2
  cases k2
theorem rul_741 : Rul r_741 := by
  refine ⟨fun _ ρ M hm hB hF hG => ?_, fun gi gv hg => (by cases hg)⟩
  have H := cr_741 M (ρ 0) (ρ 1) (ρ 2) (ρ 3) (hB _ List.mem_cons_self) (hB _ (List.mem_cons_of_mem _ List.mem_cons_self)) (hB _ (List.mem_cons_of_mem _ (List.mem_cons_of_mem _ List.mem_cons_self))) (hB _ (List.mem_cons_of_mem _ (List.mem_cons_of_mem _ (List.mem_cons_of_mem _ List.mem_cons_self)))) (cvp 59 (x' := ((ρ 0))) (y' := ((ρ 1))) (by show 0 + (1 * ρ 0 + 0) = _; omega) (by show 0 + (1 * ρ 1 + 0) = _; omega) (hm _ List.mem_cons_self)) (cvp 66 (x' := ((ρ 2))) (y' := ((ρ 3))) (by show 0 + (1 * ρ 2 + 0) = _; omega) (by show 0 + (1 * ρ 3 + 0) = _; omega) (hm _ (List.mem_cons_of_mem _ List.mem_cons_self))) hG
  obtain ⟨f0, -⟩ := H
  exact ⟨_, List.mem_cons_self, ρ, fun _ _ => rfl, okM_n, okB_n, (okF_c (by show 0 ≤ (-6) + (1 * ρ 3 + 0); omega) okF_n)⟩
-- dead2_1
theorem cr_742 (M : pM) (s0 s1 s2 s3 : Int) (b0 : 0 ≤ s0 ∧ s0 ≤ 950) (b1 : 0 ≤ s1 ∧ s1 ≤ 5000) (b2 : (-2147483648) ≤ s2 ∧ s2 ≤ 2147483647) (b3 : 1 ≤ s3 ∧ s3 ≤ 5) (m0 : HP 65 (s0) (s1) M) (m1 : HP 66 (s2) (s3) M) (hG : gI M) : (0 ≤ (s3 - 6) ∧ True) := by
  obtain ⟨⟨l, s, h1, h2, h3, h4, h5⟩, _⟩ := Eq.mp hp_65 m0
  obtain ⟨l', t, k1, k2⟩ := Eq.mp hp_66 m1
  obtain ⟨e1, e2⟩ := stuck_u h2 (end_nx h3).1 k1 (fa_nx k2)
  subst e2
  rw [(end_nx h3).2] at k2
  cases k2
theorem rul_742 : Rul r_742 := by
  refine ⟨fun _ ρ M hm hB hF hG => ?_, fun gi gv hg => (by cases hg)⟩
  have H := cr_742 M (ρ 0) (ρ 1) (ρ 2) (ρ 3) (hB _ List.mem_cons_self) (hB _ (List.mem_cons_of_mem _ List.mem_cons_self)) (hB _ (List.mem_cons_of_mem _ (List.mem_cons_of_mem _ List.mem_cons_self))) (hB _ (List.mem_cons_of_mem _ (List.mem_cons_of_mem _ (List.mem_cons_of_mem _ List.mem_cons_self)))) (cvp 65 (x' := ((ρ 0))) (y' := ((ρ 1))) (by show 0 + (1 * ρ 0 + 0) = _; omega) (by show 0 + (1 * ρ 1 + 0) = _; omega) (hm _ List.mem_cons_self)) (cvp 66 (x' := ((ρ 2))) (y' := ((ρ 3))) (by show 0 + (1 * ρ 2 + 0) = _; omega) (by show 0 + (1 * ρ 3 + 0) = _; omega) (hm _ (List.mem_cons_of_mem _ List.mem_cons_self))) hG
  obtain ⟨f0, -⟩ := H
  exact ⟨_, List.mem_cons_self, ρ, fun _ _ => rfl, okM_n, okB_n, (okF_c (by show 0 ≤ (-6) + (1 * ρ 3 + 0); omega) okF_n)⟩
-- eqm_0
theorem cr_743 (M : pM) (s0 s1 s2 s3 : Int) (b0 : 0 ≤ s0 ∧ s0 ≤ 950) (b1 : 0 ≤ s1 ∧ s1 ≤ 950) (b2 : 0 ≤ s2 ∧ s2 ≤ 5000) (b3 : 0 ≤ s3 ∧ s3 ≤ 5000) (m0 : HP 58 (s0) (s2) M) (m1 : HP 64 (s1) (s3) M) (hG : gI M) : (HP 183 (0 : Int) (0 : Int) M ∧ True) := by
  obtain ⟨⟨l, s, h1, h2, h3, h4, h5⟩, hf⟩ := Eq.mp hp_58 m0
  obtain ⟨⟨l', t, k1, k2, k3, k4, k5⟩, kf⟩ := Eq.mp hp_64 m1
  obtain ⟨e1, e2⟩ := stuck_u h2 (end_nx h3).1 k2 (end_nx k3).1
  subst e2
  obtain ⟨w0, w1, w2, w3⟩ := h4
  obtain ⟨f0, f1, f2, f3⟩ := hf
  obtain ⟨v0, v1, v2, v3⟩ := k4
  obtain ⟨g0, g1, g2, g3⟩ := kf
  exact ⟨Eq.mpr hp_183 ⟨⟨by omega, by omega, by omega⟩, tm M, s.2, ⟨by omega, by omega, by omega⟩, ⟨rfl, w1, w2, w3⟩, h5, ⟨qRr 0 M, fun _ _ _ _ => rfl, k5⟩⟩, trivial⟩
theorem rul_743 : Rul r_743 := by
  refine ⟨fun _ ρ M hm hB hF hG => ?_, fun gi gv hg => (by cases hg)⟩
  have H := cr_743 M (ρ 0) (ρ 1) (ρ 2) (ρ 3) (hB _ List.mem_cons_self) (hB _ (List.mem_cons_of_mem _ List.mem_cons_self)) (hB _ (List.mem_cons_of_mem _ (List.mem_cons_of_mem _ List.mem_cons_self))) (hB _ (List.mem_cons_of_mem _ (List.mem_cons_of_mem _ (List.mem_cons_of_mem _ List.mem_cons_self)))) (cvp 58 (x' := ((ρ 0))) (y' := ((ρ 2))) (by show 0 + (1 * ρ 0 + 0) = _; omega) (by show 0 + (1 * ρ 2 + 0) = _; omega) (hm _ List.mem_cons_self)) (cvp 64 (x' := ((ρ 1))) (y' := ((ρ 3))) (by show 0 + (1 * ρ 1 + 0) = _; omega) (by show 0 + (1 * ρ 3 + 0) = _; omega) (hm _ (List.mem_cons_of_mem _ List.mem_cons_self))) hG
  obtain ⟨k0, -⟩ := H
  exact ⟨_, List.mem_cons_self, ρ, fun _ _ => rfl, (okM_c (pvp 183 (by show 0 + 0 = _; omega) (by show 0 + 0 = _; omega) k0) okM_n), okB_n, okF_n⟩
-- eqo_0
theorem cr_744 (M : pM) (m0 : HP 182 (0 : Int) (0 : Int) M) (m1 : (0 ≤ (34 : Int) ∧ M 61 (34 : Int).toNat = (0 : Int))) (hG : gI M) : (HP 183 (0 : Int) (0 : Int) M ∧ True) := by
  have e : M 61 34 = 0 := m1.2
  rcases Eq.mp hp_182 m0 with ⟨h1, h2⟩ | ⟨h1, h2⟩
  · exact ⟨Eq.mpr hp_183 h2, trivial⟩
  · omega
theorem rul_744 : Rul r_744 := by
  refine ⟨fun _ ρ M hm hB hF hG => ?_, fun gi gv hg => (by cases hg)⟩
  have H := cr_744 M (cvp 182 (x' := (0 : Int)) (y' := (0 : Int)) (by show 0 + 0 = _; omega) (by show 0 + 0 = _; omega) (hm _ List.mem_cons_self)) (cvm (c := 61) (by decide) (x' := (34 : Int)) (y' := (0 : Int)) (by show 34 + 0 = _; omega) (by show 0 + 0 = _; omega) (hm _ (List.mem_cons_of_mem _ List.mem_cons_self))) hG
  obtain ⟨k0, -⟩ := H
  exact ⟨_, List.mem_cons_self, ρ, fun _ _ => rfl, (okM_c (pvp 183 (by show 0 + 0 = _; omega) (by show 0 + 0 = _; omega) k0) okM_n), okB_n, okF_n⟩
-- eqi_0
theorem cr_745 (M : pM) (m0 : HP 183 (0 : Int) (0 : Int) M) (m1 : (0 ≤ (34 : Int) ∧ M 61 (34 : Int).toNat = (0 : Int))) (hG : gI M) : (HP 182 (0 : Int) (0 : Int) M ∧ True) := by
  have e : M 61 34 = 0 := m1.2
  exact ⟨Eq.mpr hp_182 (Or.inl ⟨e, Eq.mp hp_183 m0⟩), trivial⟩
theorem rul_745 : Rul r_745 := by
  refine ⟨fun _ ρ M hm hB hF hG => ?_, fun gi gv hg => (by cases hg)⟩
  have H := cr_745 M (cvp 183 (x' := (0 : Int)) (y' := (0 : Int)) (by show 0 + 0 = _; omega) (by show 0 + 0 = _; omega) (hm _ List.mem_cons_self)) (cvm (c := 61) (by decide) (x' := (34 : Int)) (y' := (0 : Int)) (by show 34 + 0 = _; omega) (by show 0 + 0 = _; omega) (hm _ (List.mem_cons_of_mem _ List.mem_cons_self))) hG
  obtain ⟨k0, -⟩ := H
  exact ⟨_, List.mem_cons_self, ρ, fun _ _ => rfl, (okM_c (pvp 182 (by show 0 + 0 = _; omega) (by show 0 + 0 = _; omega) k0) okM_n), okB_n, okF_n⟩
-- eg_0
theorem cr_746 (M : pM) (s0 s1 s2 : Int) (b0 : 0 ≤ s0 ∧ s0 ≤ 63) (b1 : (-2147483648) ≤ s1 ∧ s1 ≤ 2147483647) (b2 : (-2147483648) ≤ s2 ∧ s2 ≤ 2147483647) (m0 : HP 183 (0 : Int) (0 : Int) M) (m1 : (0 ≤ (s0) ∧ M 4 (s0).toNat = (s1))) (m2 : (0 ≤ (s0) ∧ M 69 (s0).toNat = (s2))) (hG : gI M) : (0 ≤ ((-1) * s1 + s2) ∧ 0 ≤ (s1 + (-1) * s2) ∧ True) := by
  obtain ⟨hcn, N, A, ha, hw, hc, R', he, hr⟩ := Eq.mp hp_183 m0
  have h1 : M 4 s0.toNat = _ := hc.1 s0.toNat (by omega)
  have h2 := hr.1 s0.toNat (by omega)
  rw [he 0 s0.toNat (by decide) (by decide)] at h2
  have h2 : M 69 (64 * 0 + s0.toNat) = _ := h2
  rw [m1.2] at h1
  have h3 := m2.2
  rw [show (s0).toNat = 64 * 0 + s0.toNat by omega, h2] at h3
  exact ⟨by omega, by omega, trivial⟩
theorem rul_746 : Rul r_746 := by
  refine ⟨fun _ ρ M hm hB hF hG => ?_, fun gi gv hg => (by cases hg)⟩
  have H := cr_746 M (ρ 0) (ρ 1) (ρ 2) (hB _ List.mem_cons_self) (hB _ (List.mem_cons_of_mem _ List.mem_cons_self)) (hB _ (List.mem_cons_of_mem _ (List.mem_cons_of_mem _ List.mem_cons_self))) (cvp 183 (x' := (0 : Int)) (y' := (0 : Int)) (by show 0 + 0 = _; omega) (by show 0 + 0 = _; omega) (hm _ List.mem_cons_self)) (cvm (c := 4) (by decide) (x' := ((ρ 0))) (y' := ((ρ 1))) (by show 0 + (1 * ρ 0 + 0) = _; omega) (by show 0 + (1 * ρ 1 + 0) = _; omega) (hm _ (List.mem_cons_of_mem _ List.mem_cons_self))) (cvm (c := 69) (by decide) (x' := ((ρ 0))) (y' := ((ρ 2))) (by show 0 + (1 * ρ 0 + 0) = _; omega) (by show 0 + (1 * ρ 2 + 0) = _; omega) (hm _ (List.mem_cons_of_mem _ (List.mem_cons_of_mem _ List.mem_cons_self)))) hG
  obtain ⟨f0, f1, -⟩ := H
  exact ⟨_, List.mem_cons_self, ρ, fun _ _ => rfl, okM_n, okB_n, (okF_c (by show 0 ≤ 0 + ((-1) * ρ 1 + (1 * ρ 2 + 0)); omega) (okF_c (by show 0 ≤ 0 + (1 * ρ 1 + ((-1) * ρ 2 + 0)); omega) okF_n))⟩
-- el_0
theorem cr_747 (M : pM) (s0 s1 s2 : Int) (b0 : 0 ≤ s0 ∧ s0 ≤ 47) (b1 : (-2147483648) ≤ s1 ∧ s1 ≤ 2147483647) (b2 : (-2147483648) ≤ s2 ∧ s2 ≤ 2147483647) (m0 : HP 183 (0 : Int) (0 : Int) M) (m1 : (0 ≤ (s0) ∧ M 5 (s0).toNat = (s1))) (m2 : (0 ≤ (s0) ∧ M 70 (s0).toNat = (s2))) (hG : gI M) : (0 ≤ ((-1) * s1 + s2) ∧ 0 ≤ (s1 + (-1) * s2) ∧ True) := by
  obtain ⟨hcn, N, A, ha, hw, hc, R', he, hr⟩ := Eq.mp hp_183 m0
  have h1 : M 5 s0.toNat = _ := hc.2.1 s0.toNat (by omega)
  have h2 := hr.2.1 s0.toNat (by omega)
  rw [he 1 s0.toNat (by decide) (by decide)] at h2
  have h2 : M 70 (48 * 0 + s0.toNat) = _ := h2
  rw [m1.2] at h1
  have h3 := m2.2
  rw [show (s0).toNat = 48 * 0 + s0.toNat by omega, h2] at h3
  exact ⟨by omega, by omega, trivial⟩
theorem rul_747 : Rul r_747 := by
  refine ⟨fun _ ρ M hm hB hF hG => ?_, fun gi gv hg => (by cases hg)⟩
  have H := cr_747 M (ρ 0) (ρ 1) (ρ 2) (hB _ List.mem_cons_self) (hB _ (List.mem_cons_of_mem _ List.mem_cons_self)) (hB _ (List.mem_cons_of_mem _ (List.mem_cons_of_mem _ List.mem_cons_self))) (cvp 183 (x' := (0 : Int)) (y' := (0 : Int)) (by show 0 + 0 = _; omega) (by show 0 + 0 = _; omega) (hm _ List.mem_cons_self)) (cvm (c := 5) (by decide) (x' := ((ρ 0))) (y' := ((ρ 1))) (by show 0 + (1 * ρ 0 + 0) = _; omega) (by show 0 + (1 * ρ 1 + 0) = _; omega) (hm _ (List.mem_cons_of_mem _ List.mem_cons_self))) (cvm (c := 70) (by decide) (x' := ((ρ 0))) (y' := ((ρ 2))) (by show 0 + (1 * ρ 0 + 0) = _; omega) (by show 0 + (1 * ρ 2 + 0) = _; omega) (hm _ (List.mem_cons_of_mem _ (List.mem_cons_of_mem _ List.mem_cons_self)))) hG
  obtain ⟨f0, f1, -⟩ := H
  exact ⟨_, List.mem_cons_self, ρ, fun _ _ => rfl, okM_n, okB_n, (okF_c (by show 0 ≤ 0 + ((-1) * ρ 1 + (1 * ρ 2 + 0)); omega) (okF_c (by show 0 ≤ 0 + (1 * ρ 1 + ((-1) * ρ 2 + 0)); omega) okF_n))⟩
-- et_0
theorem cr_748 (M : pM) (s0 s1 s2 : Int) (b0 : 0 ≤ s0 ∧ s0 ≤ 5) (b1 : (-2147483648) ≤ s1 ∧ s1 ≤ 2147483647) (b2 : (-2147483648) ≤ s2 ∧ s2 ≤ 2147483647) (m0 : HP 183 (0 : Int) (0 : Int) M) (m1 : (0 ≤ (s0) ∧ M 7 (s0).toNat = (s1))) (m2 : (0 ≤ (s0) ∧ M 73 (s0).toNat = (s2))) (hG : gI M) : (0 ≤ ((-1) * s1 + s2) ∧ 0 ≤ (s1 + (-1) * s2) ∧ True) := by
  obtain ⟨hcn, N, A, ha, hw, hc, R', he, hr⟩ := Eq.mp hp_183 m0
  have h1 : M 7 s0.toNat = _ := hc.2.2.2.2.1 s0.toNat (by omega)
  have h2 := hr.2.2.2.2.1 s0.toNat (by omega)
  rw [he 4 s0.toNat (by decide) (by decide)] at h2
  have h2 : M 73 (6 * 0 + s0.toNat) = _ := h2
  rw [m1.2] at h1
  have h3 := m2.2
  rw [show (s0).toNat = 6 * 0 + s0.toNat by omega, h2] at h3
  exact ⟨by omega, by omega, trivial⟩
theorem rul_748 : Rul r_748 := by
  refine ⟨fun _ ρ M hm hB hF hG => ?_, fun gi gv hg => (by cases hg)⟩
  have H := cr_748 M (ρ 0) (ρ 1) (ρ 2) (hB _ List.mem_cons_self) (hB _ (List.mem_cons_of_mem _ List.mem_cons_self)) (hB _ (List.mem_cons_of_mem _ (List.mem_cons_of_mem _ List.mem_cons_self))) (cvp 183 (x' := (0 : Int)) (y' := (0 : Int)) (by show 0 + 0 = _; omega) (by show 0 + 0 = _; omega) (hm _ List.mem_cons_self)) (cvm (c := 7) (by decide) (x' := ((ρ 0))) (y' := ((ρ 1))) (by show 0 + (1 * ρ 0 + 0) = _; omega) (by show 0 + (1 * ρ 1 + 0) = _; omega) (hm _ (List.mem_cons_of_mem _ List.mem_cons_self))) (cvm (c := 73) (by decide) (x' := ((ρ 0))) (y' := ((ρ 2))) (by show 0 + (1 * ρ 0 + 0) = _; omega) (by show 0 + (1 * ρ 2 + 0) = _; omega) (hm _ (List.mem_cons_of_mem _ (List.mem_cons_of_mem _ List.mem_cons_self)))) hG
  obtain ⟨f0, f1, -⟩ := H
  exact ⟨_, List.mem_cons_self, ρ, fun _ _ => rfl, okM_n, okB_n, (okF_c (by show 0 ≤ 0 + ((-1) * ρ 1 + (1 * ρ 2 + 0)); omega) (okF_c (by show 0 ≤ 0 + (1 * ρ 1 + ((-1) * ρ 2 + 0)); omega) okF_n))⟩
-- em_0
theorem cr_749 (M : pM) (s0 s1 s2 s3 : Int) (b0 : 0 ≤ s0 ∧ s0 ≤ 47) (b1 : 0 ≤ s1 ∧ s1 ≤ 47) (b2 : (-2147483648) ≤ s2 ∧ s2 ≤ 2147483647) (b3 : (-2147483648) ≤ s3 ∧ s3 ≤ 2147483647) (m0 : HP 183 (0 : Int) (0 : Int) M) (m1 : (0 ≤ (s0) ∧ M 5 (s0).toNat = (s2))) (m2 : (0 ≤ (s1) ∧ M 70 (s1).toNat = (s3))) (f0 : 0 ≤ ((-1) * s0 + s1)) (f1 : 0 ≤ (s0 + (-1) * s1)) (hG : gI M) : (0 ≤ ((-1) * s2 + s3) ∧ 0 ≤ (s2 + (-1) * s3) ∧ True) := by
  have e_ : s0 = s1 := by omega
  subst e_
  obtain ⟨hcn, N, A, ha, hw, hc, R', he, hr⟩ := Eq.mp hp_183 m0
  have h1 : M 5 s0.toNat = _ := hc.2.1 s0.toNat (by omega)
  have h2 := hr.2.1 s0.toNat (by omega)
  rw [he 1 s0.toNat (by decide) (by decide)] at h2
  have h2 : M 70 (48 * 0 + s0.toNat) = _ := h2
  rw [m1.2] at h1
  have h3 := m2.2
  rw [show (s0).toNat = 48 * 0 + s0.toNat by omega, h2] at h3
  exact ⟨by omega, by omega, trivial⟩
theorem rul_749 : Rul r_749 := by
  refine ⟨fun _ ρ M hm hB hF hG => ?_, fun gi gv hg => (by cases hg)⟩
  have H := cr_749 M (ρ 0) (ρ 1) (ρ 2) (ρ 3) (hB _ List.mem_cons_self) (hB _ (List.mem_cons_of_mem _ List.mem_cons_self)) (hB _ (List.mem_cons_of_mem _ (List.mem_cons_of_mem _ List.mem_cons_self))) (hB _ (List.mem_cons_of_mem _ (List.mem_cons_of_mem _ (List.mem_cons_of_mem _ List.mem_cons_self)))) (cvp 183 (x' := (0 : Int)) (y' := (0 : Int)) (by show 0 + 0 = _; omega) (by show 0 + 0 = _; omega) (hm _ List.mem_cons_self)) (cvm (c := 5) (by decide) (x' := ((ρ 0))) (y' := ((ρ 2))) (by show 0 + (1 * ρ 0 + 0) = _; omega) (by show 0 + (1 * ρ 2 + 0) = _; omega) (hm _ (List.mem_cons_of_mem _ List.mem_cons_self))) (cvm (c := 70) (by decide) (x' := ((ρ 1))) (y' := ((ρ 3))) (by show 0 + (1 * ρ 1 + 0) = _; omega) (by show 0 + (1 * ρ 3 + 0) = _; omega) (hm _ (List.mem_cons_of_mem _ (List.mem_cons_of_mem _ List.mem_cons_self)))) (by have h := hF _ List.mem_cons_self; have h : 0 ≤ 0 + ((-1) * ρ 0 + (1 * ρ 1 + 0)) := h; omega) (by have h := hF _ (List.mem_cons_of_mem _ List.mem_cons_self); have h : 0 ≤ 0 + (1 * ρ 0 + ((-1) * ρ 1 + 0)) := h; omega) hG
  obtain ⟨f0, f1, -⟩ := H
  exact ⟨_, List.mem_cons_self, ρ, fun _ _ => rfl, okM_n, okB_n, (okF_c (by show 0 ≤ 0 + ((-1) * ρ 2 + (1 * ρ 3 + 0)); omega) (okF_c (by show 0 ≤ 0 + (1 * ρ 2 + ((-1) * ρ 3 + 0)); omega) okF_n))⟩
-- eu_0
theorem cr_750 (M : pM) (s0 s1 s2 s3 : Int) (b0 : 0 ≤ s0 ∧ s0 ≤ 5) (b1 : 0 ≤ s1 ∧ s1 ≤ 5) (b2 : (-2147483648) ≤ s2 ∧ s2 ≤ 2147483647) (b3 : (-2147483648) ≤ s3 ∧ s3 ≤ 2147483647) (m0 : HP 183 (0 : Int) (0 : Int) M) (m1 : (0 ≤ (s0) ∧ M 7 (s0).toNat = (s2))) (m2 : (0 ≤ (s1) ∧ M 73 (s1).toNat = (s3))) (f0 : 0 ≤ ((-1) * s0 + s1)) (f1 : 0 ≤ (s0 + (-1) * s1)) (hG : gI M) : (0 ≤ ((-1) * s2 + s3) ∧ 0 ≤ (s2 + (-1) * s3) ∧ True) := by
  have e_ : s0 = s1 := by omega
  subst e_
  obtain ⟨hcn, N, A, ha, hw, hc, R', he, hr⟩ := Eq.mp hp_183 m0
  have h1 : M 7 s0.toNat = _ := hc.2.2.2.2.1 s0.toNat (by omega)
  have h2 := hr.2.2.2.2.1 s0.toNat (by omega)
  rw [he 4 s0.toNat (by decide) (by decide)] at h2
  have h2 : M 73 (6 * 0 + s0.toNat) = _ := h2
  rw [m1.2] at h1
  have h3 := m2.2
  rw [show (s0).toNat = 6 * 0 + s0.toNat by omega, h2] at h3
  exact ⟨by omega, by omega, trivial⟩
theorem rul_750 : Rul r_750 := by
  refine ⟨fun _ ρ M hm hB hF hG => ?_, fun gi gv hg => (by cases hg)⟩
  have H := cr_750 M (ρ 0) (ρ 1) (ρ 2) (ρ 3) (hB _ List.mem_cons_self) (hB _ (List.mem_cons_of_mem _ List.mem_cons_self)) (hB _ (List.mem_cons_of_mem _ (List.mem_cons_of_mem _ List.mem_cons_self))) (hB _ (List.mem_cons_of_mem _ (List.mem_cons_of_mem _ (List.mem_cons_of_mem _ List.mem_cons_self)))) (cvp 183 (x' := (0 : Int)) (y' := (0 : Int)) (by show 0 + 0 = _; omega) (by show 0 + 0 = _; omega) (hm _ List.mem_cons_self)) (cvm (c := 7) (by decide) (x' := ((ρ 0))) (y' := ((ρ 2))) (by show 0 + (1 * ρ 0 + 0) = _; omega) (by show 0 + (1 * ρ 2 + 0) = _; omega) (hm _ (List.mem_cons_of_mem _ List.mem_cons_self))) (cvm (c := 73) (by decide) (x' := ((ρ 1))) (y' := ((ρ 3))) (by show 0 + (1 * ρ 1 + 0) = _; omega) (by show 0 + (1 * ρ 3 + 0) = _; omega) (hm _ (List.mem_cons_of_mem _ (List.mem_cons_of_mem _ List.mem_cons_self)))) (by have h := hF _ List.mem_cons_self; have h : 0 ≤ 0 + ((-1) * ρ 0 + (1 * ρ 1 + 0)) := h; omega) (by have h := hF _ (List.mem_cons_of_mem _ List.mem_cons_self); have h : 0 ≤ 0 + (1 * ρ 0 + ((-1) * ρ 1 + 0)) := h; omega) hG
  obtain ⟨f0, f1, -⟩ := H
  exact ⟨_, List.mem_cons_self, ρ, fun _ _ => rfl, okM_n, okB_n, (okF_c (by show 0 ≤ 0 + ((-1) * ρ 2 + (1 * ρ 3 + 0)); omega) (okF_c (by show 0 ≤ 0 + (1 * ρ 2 + ((-1) * ρ 3 + 0)); omega) okF_n))⟩
-- ew_0
theorem cr_751 (M : pM) (s0 s1 s2 s3 : Int) (b0 : 0 ≤ s0 ∧ s0 ≤ 5) (b1 : (-2147483648) ≤ s1 ∧ s1 ≤ 2147483647) (b2 : (-2147483648) ≤ s2 ∧ s2 ≤ 2147483647) (b3 : (-2147483648) ≤ s3 ∧ s3 ≤ 2147483647) (m0 : HP 183 (0 : Int) (0 : Int) M) (m1 : (0 ≤ (s0) ∧ M 6 (s0).toNat = (s1))) (m2 : (0 ≤ (s0) ∧ M 71 (s0).toNat = (s2))) (m3 : (0 ≤ (s0) ∧ M 72 (s0).toNat = (s3))) (hG : gI M) : (0 ≤ ((-1) * s1 - 1) ∧ 0 ≤ (s1 + 1) ∧ 0 ≤ ((-1) * s2 - 1) ∧ 0 ≤ (s2 + 1) ∧ True) ∨ (0 ≤ ((-1) * s1 + s2 + 4 * s3) ∧ 0 ≤ (s1 + (-1) * s2 + (-4) * s3) ∧ 0 ≤ (s2) ∧ 0 ≤ (s3) ∧ True) := by
  obtain ⟨hcn, N, A, ha, hw, hc, R', he, hr⟩ := Eq.mp hp_183 m0
  have h1 : M 6 s0.toNat = if A 3 s0.toNat < 0 then -1 else 4 * A 4 s0.toNat + A 3 s0.toNat := hc.2.2.1 s0.toNat (by omega)
  rw [m1.2] at h1
  have h4 := hc.2.2.2.1 s0.toNat (by omega)
  have k0 := hr.2.2.1 s0.toNat (by omega)
  rw [he 2 s0.toNat (by decide) (by decide)] at k0
  have k0 : M 71 (6 * 0 + s0.toNat) = _ := k0
  have j0 := m2.2
  rw [show (s0).toNat = 6 * 0 + s0.toNat by omega, k0] at j0
  have k1 := hr.2.2.2.1 s0.toNat (by omega)
  rw [he 3 s0.toNat (by decide) (by decide)] at k1
  have k1 : M 72 (6 * 0 + s0.toNat) = _ := k1
  have j1 := m3.2
  rw [show (s0).toNat = 6 * 0 + s0.toNat by omega, k1] at j1
  by_cases hz : A 3 s0.toNat < 0
  · rw [if_pos hz] at h1; exact Or.inl ⟨by omega, by omega, by omega, by omega, trivial⟩
  · rw [if_neg hz] at h1; exact Or.inr ⟨by omega, by omega, by omega, by omega, trivial⟩
theorem rul_751 : Rul r_751 := by
  refine ⟨fun _ ρ M hm hB hF hG => ?_, fun gi gv hg => (by cases hg)⟩
  have H := cr_751 M (ρ 0) (ρ 1) (ρ 2) (ρ 3) (hB _ List.mem_cons_self) (hB _ (List.mem_cons_of_mem _ List.mem_cons_self)) (hB _ (List.mem_cons_of_mem _ (List.mem_cons_of_mem _ List.mem_cons_self))) (hB _ (List.mem_cons_of_mem _ (List.mem_cons_of_mem _ (List.mem_cons_of_mem _ List.mem_cons_self)))) (cvp 183 (x' := (0 : Int)) (y' := (0 : Int)) (by show 0 + 0 = _; omega) (by show 0 + 0 = _; omega) (hm _ List.mem_cons_self)) (cvm (c := 6) (by decide) (x' := ((ρ 0))) (y' := ((ρ 1))) (by show 0 + (1 * ρ 0 + 0) = _; omega) (by show 0 + (1 * ρ 1 + 0) = _; omega) (hm _ (List.mem_cons_of_mem _ List.mem_cons_self))) (cvm (c := 71) (by decide) (x' := ((ρ 0))) (y' := ((ρ 2))) (by show 0 + (1 * ρ 0 + 0) = _; omega) (by show 0 + (1 * ρ 2 + 0) = _; omega) (hm _ (List.mem_cons_of_mem _ (List.mem_cons_of_mem _ List.mem_cons_self)))) (cvm (c := 72) (by decide) (x' := ((ρ 0))) (y' := ((ρ 3))) (by show 0 + (1 * ρ 0 + 0) = _; omega) (by show 0 + (1 * ρ 3 + 0) = _; omega) (hm _ (List.mem_cons_of_mem _ (List.mem_cons_of_mem _ (List.mem_cons_of_mem _ List.mem_cons_self))))) hG
  rcases H with H | H
  · skip
    obtain ⟨f0, f1, f2, f3, -⟩ := H
    exact ⟨_, List.mem_cons_self, ρ, fun _ _ => rfl, okM_n, okB_n, (okF_c (by show 0 ≤ (-1) + ((-1) * ρ 1 + 0); omega) (okF_c (by show 0 ≤ 1 + (1 * ρ 1 + 0); omega) (okF_c (by show 0 ≤ (-1) + ((-1) * ρ 2 + 0); omega) (okF_c (by show 0 ≤ 1 + (1 * ρ 2 + 0); omega) okF_n))))⟩
  · skip
    obtain ⟨f0, f1, f2, f3, -⟩ := H
    exact ⟨_, (List.mem_cons_of_mem _ List.mem_cons_self), ρ, fun _ _ => rfl, okM_n, okB_n, (okF_c (by show 0 ≤ 0 + ((-1) * ρ 1 + (1 * ρ 2 + (4 * ρ 3 + 0))); omega) (okF_c (by show 0 ≤ 0 + (1 * ρ 1 + ((-1) * ρ 2 + ((-4) * ρ 3 + 0))); omega) (okF_c (by show 0 ≤ 0 + (1 * ρ 2 + 0); omega) (okF_c (by show 0 ≤ 0 + (1 * ρ 3 + 0); omega) okF_n))))⟩
-- ecw_0
theorem cr_752 (M : pM) (s0 s1 : Int) (b0 : 0 ≤ s0 ∧ s0 ≤ 12) (b1 : 0 ≤ s1 ∧ s1 ≤ 12) (m0 : HP 183 (0 : Int) (0 : Int) M) (m1 : (0 ≤ (7 : Int) ∧ M 3 (7 : Int).toNat = (s0))) (m2 : (0 ≤ (0 : Int) ∧ M 65 (0 : Int).toNat = (s1))) (hG : gI M) : (0 ≤ ((-1) * s0 + s1) ∧ 0 ≤ (s0 + (-1) * s1) ∧ True) := by
  obtain ⟨hcn, N, A, ha, hw, hc, R', he, hr⟩ := Eq.mp hp_183 m0
  obtain ⟨e1, e2, e3⟩ := hcn
  have g0 : M 3 7 = s0 := m1.2
  have g1 : M 65 0 = s1 := m2.2
  have e : M 3 7 = M 65 0 := e1
  exact ⟨by omega, by omega, trivial⟩
theorem rul_752 : Rul r_752 := by
  refine ⟨fun _ ρ M hm hB hF hG => ?_, fun gi gv hg => (by cases hg)⟩
  have H := cr_752 M (ρ 0) (ρ 1) (hB _ List.mem_cons_self) (hB _ (List.mem_cons_of_mem _ List.mem_cons_self)) (cvp 183 (x' := (0 : Int)) (y' := (0 : Int)) (by show 0 + 0 = _; omega) (by show 0 + 0 = _; omega) (hm _ List.mem_cons_self)) (cvm (c := 3) (by decide) (x' := (7 : Int)) (y' := ((ρ 0))) (by show 7 + 0 = _; omega) (by show 0 + (1 * ρ 0 + 0) = _; omega) (hm _ (List.mem_cons_of_mem _ List.mem_cons_self))) (cvm (c := 65) (by decide) (x' := (0 : Int)) (y' := ((ρ 1))) (by show 0 + 0 = _; omega) (by show 0 + (1 * ρ 1 + 0) = _; omega) (hm _ (List.mem_cons_of_mem _ (List.mem_cons_of_mem _ List.mem_cons_self)))) hG
  obtain ⟨f0, f1, -⟩ := H
  exact ⟨_, List.mem_cons_self, ρ, fun _ _ => rfl, okM_n, okB_n, (okF_c (by show 0 ≤ 0 + ((-1) * ρ 0 + (1 * ρ 1 + 0)); omega) (okF_c (by show 0 ≤ 0 + (1 * ρ 0 + ((-1) * ρ 1 + 0)); omega) okF_n))⟩
-- ecr_0
theorem cr_753 (M : pM) (s0 s1 : Int) (b0 : 0 ≤ s0 ∧ s0 ≤ 20) (b1 : 0 ≤ s1 ∧ s1 ≤ 20) (m0 : HP 183 (0 : Int) (0 : Int) M) (m1 : (0 ≤ (10 : Int) ∧ M 3 (10 : Int).toNat = (s0))) (m2 : (0 ≤ (0 : Int) ∧ M 67 (0 : Int).toNat = (s1))) (hG : gI M) : (0 ≤ ((-1) * s0 + s1) ∧ 0 ≤ (s0 + (-1) * s1) ∧ True) := by
  obtain ⟨hcn, N, A, ha, hw, hc, R', he, hr⟩ := Eq.mp hp_183 m0
  obtain ⟨e1, e2, e3⟩ := hcn
  have g0 : M 3 10 = s0 := m1.2
  have g1 : M 67 0 = s1 := m2.2
  have e : M 3 10 = M 67 0 := e2
  exact ⟨by omega, by omega, trivial⟩
theorem rul_753 : Rul r_753 := by
  refine ⟨fun _ ρ M hm hB hF hG => ?_, fun gi gv hg => (by cases hg)⟩
  have H := cr_753 M (ρ 0) (ρ 1) (hB _ List.mem_cons_self) (hB _ (List.mem_cons_of_mem _ List.mem_cons_self)) (cvp 183 (x' := (0 : Int)) (y' := (0 : Int)) (by show 0 + 0 = _; omega) (by show 0 + 0 = _; omega) (hm _ List.mem_cons_self)) (cvm (c := 3) (by decide) (x' := (10 : Int)) (y' := ((ρ 0))) (by show 10 + 0 = _; omega) (by show 0 + (1 * ρ 0 + 0) = _; omega) (hm _ (List.mem_cons_of_mem _ List.mem_cons_self))) (cvm (c := 67) (by decide) (x' := (0 : Int)) (y' := ((ρ 1))) (by show 0 + 0 = _; omega) (by show 0 + (1 * ρ 1 + 0) = _; omega) (hm _ (List.mem_cons_of_mem _ (List.mem_cons_of_mem _ List.mem_cons_self)))) hG
  obtain ⟨f0, f1, -⟩ := H
  exact ⟨_, List.mem_cons_self, ρ, fun _ _ => rfl, okM_n, okB_n, (okF_c (by show 0 ≤ 0 + ((-1) * ρ 0 + (1 * ρ 1 + 0)); omega) (okF_c (by show 0 ≤ 0 + (1 * ρ 0 + ((-1) * ρ 1 + 0)); omega) okF_n))⟩
-- ecg_0
theorem cr_754 (M : pM) (s0 s1 : Int) (b0 : 0 ≤ s0 ∧ s0 ≤ 4) (b1 : 0 ≤ s1 ∧ s1 ≤ 4) (m0 : HP 183 (0 : Int) (0 : Int) M) (m1 : (0 ≤ (13 : Int) ∧ M 3 (13 : Int).toNat = (s0))) (m2 : (0 ≤ (0 : Int) ∧ M 68 (0 : Int).toNat = (s1))) (hG : gI M) : (0 ≤ ((-1) * s0 + s1) ∧ 0 ≤ (s0 + (-1) * s1) ∧ True) := by
  obtain ⟨hcn, N, A, ha, hw, hc, R', he, hr⟩ := Eq.mp hp_183 m0
  obtain ⟨e1, e2, e3⟩ := hcn
  have g0 : M 3 13 = s0 := m1.2
  have g1 : M 68 0 = s1 := m2.2
  have e : M 3 13 = M 68 0 := e3
  exact ⟨by omega, by omega, trivial⟩
theorem rul_754 : Rul r_754 := by
  refine ⟨fun _ ρ M hm hB hF hG => ?_, fun gi gv hg => (by cases hg)⟩
  have H := cr_754 M (ρ 0) (ρ 1) (hB _ List.mem_cons_self) (hB _ (List.mem_cons_of_mem _ List.mem_cons_self)) (cvp 183 (x' := (0 : Int)) (y' := (0 : Int)) (by show 0 + 0 = _; omega) (by show 0 + 0 = _; omega) (hm _ List.mem_cons_self)) (cvm (c := 3) (by decide) (x' := (13 : Int)) (y' := ((ρ 0))) (by show 13 + 0 = _; omega) (by show 0 + (1 * ρ 0 + 0) = _; omega) (hm _ (List.mem_cons_of_mem _ List.mem_cons_self))) (cvm (c := 68) (by decide) (x' := (0 : Int)) (y' := ((ρ 1))) (by show 0 + 0 = _; omega) (by show 0 + (1 * ρ 1 + 0) = _; omega) (hm _ (List.mem_cons_of_mem _ (List.mem_cons_of_mem _ List.mem_cons_self)))) hG
  obtain ⟨f0, f1, -⟩ := H
  exact ⟨_, List.mem_cons_self, ρ, fun _ _ => rfl, okM_n, okB_n, (okF_c (by show 0 ≤ 0 + ((-1) * ρ 0 + (1 * ρ 1 + 0)); omega) (okF_c (by show 0 ≤ 0 + (1 * ρ 0 + ((-1) * ρ 1 + 0)); omega) okF_n))⟩
-- eqm_1
theorem cr_755 (M : pM) (s0 s1 s2 s3 : Int) (b0 : 0 ≤ s0 ∧ s0 ≤ 950) (b1 : 0 ≤ s1 ∧ s1 ≤ 950) (b2 : 0 ≤ s2 ∧ s2 ≤ 5000) (b3 : 0 ≤ s3 ∧ s3 ≤ 5000) (m0 : HP 59 (s0) (s2) M) (m1 : HP 65 (s1) (s3) M) (hG : gI M) : (HP 184 (0 : Int) (0 : Int) M ∧ True) := by
  obtain ⟨⟨l, s, h1, h2, h3, h4, h5⟩, hf⟩ := Eq.mp hp_59 m0
  obtain ⟨⟨l', t, k1, k2, k3, k4, k5⟩, kf⟩ := Eq.mp hp_65 m1
  obtain ⟨e1, e2⟩ := stuck_u h2 (end_nx h3).1 k2 (end_nx k3).1
  subst e2
  obtain ⟨w0, w1, w2, w3⟩ := h4
  obtain ⟨f0, f1, f2, f3⟩ := hf
  obtain ⟨v0, v1, v2, v3⟩ := k4
  obtain ⟨g0, g1, g2, g3⟩ := kf
  exact ⟨Eq.mpr hp_184 ⟨⟨by omega, by omega, by omega⟩, tm M, s.2, ⟨by omega, by omega, by omega⟩, ⟨rfl, w1, w2, w3⟩, h5, ⟨qRr 1 M, fun _ _ _ _ => rfl, k5⟩⟩, trivial⟩
theorem rul_755 : Rul r_755 := by
  refine ⟨fun _ ρ M hm hB hF hG => ?_, fun gi gv hg => (by cases hg)⟩
  have H := cr_755 M (ρ 0) (ρ 1) (ρ 2) (ρ 3) (hB _ List.mem_cons_self) (hB _ (List.mem_cons_of_mem _ List.mem_cons_self)) (hB _ (List.mem_cons_of_mem _ (List.mem_cons_of_mem _ List.mem_cons_self))) (hB _ (List.mem_cons_of_mem _ (List.mem_cons_of_mem _ (List.mem_cons_of_mem _ List.mem_cons_self)))) (cvp 59 (x' := ((ρ 0))) (y' := ((ρ 2))) (by show 0 + (1 * ρ 0 + 0) = _; omega) (by show 0 + (1 * ρ 2 + 0) = _; omega) (hm _ List.mem_cons_self)) (cvp 65 (x' := ((ρ 1))) (y' := ((ρ 3))) (by show 0 + (1 * ρ 1 + 0) = _; omega) (by show 0 + (1 * ρ 3 + 0) = _; omega) (hm _ (List.mem_cons_of_mem _ List.mem_cons_self))) hG
  obtain ⟨k0, -⟩ := H
  exact ⟨_, List.mem_cons_self, ρ, fun _ _ => rfl, (okM_c (pvp 184 (by show 0 + 0 = _; omega) (by show 0 + 0 = _; omega) k0) okM_n), okB_n, okF_n⟩
-- eqo_1
theorem cr_756 (M : pM) (m0 : HP 182 (0 : Int) (0 : Int) M) (m1 : (0 ≤ (34 : Int) ∧ M 61 (34 : Int).toNat = (1 : Int))) (hG : gI M) : (HP 184 (0 : Int) (0 : Int) M ∧ True) := by
  have e : M 61 34 = 1 := m1.2
  rcases Eq.mp hp_182 m0 with ⟨h1, h2⟩ | ⟨h1, h2⟩
  · omega
  · exact ⟨Eq.mpr hp_184 h2, trivial⟩
theorem rul_756 : Rul r_756 := by
  refine ⟨fun _ ρ M hm hB hF hG => ?_, fun gi gv hg => (by cases hg)⟩
  have H := cr_756 M (cvp 182 (x' := (0 : Int)) (y' := (0 : Int)) (by show 0 + 0 = _; omega) (by show 0 + 0 = _; omega) (hm _ List.mem_cons_self)) (cvm (c := 61) (by decide) (x' := (34 : Int)) (y' := (1 : Int)) (by show 34 + 0 = _; omega) (by show 1 + 0 = _; omega) (hm _ (List.mem_cons_of_mem _ List.mem_cons_self))) hG
  obtain ⟨k0, -⟩ := H
  exact ⟨_, List.mem_cons_self, ρ, fun _ _ => rfl, (okM_c (pvp 184 (by show 0 + 0 = _; omega) (by show 0 + 0 = _; omega) k0) okM_n), okB_n, okF_n⟩
-- eqi_1
theorem cr_757 (M : pM) (m0 : HP 184 (0 : Int) (0 : Int) M) (m1 : (0 ≤ (34 : Int) ∧ M 61 (34 : Int).toNat = (1 : Int))) (hG : gI M) : (HP 182 (0 : Int) (0 : Int) M ∧ True) := by
  have e : M 61 34 = 1 := m1.2
  exact ⟨Eq.mpr hp_182 (Or.inr ⟨e, Eq.mp hp_184 m0⟩), trivial⟩
theorem rul_757 : Rul r_757 := by
  refine ⟨fun _ ρ M hm hB hF hG => ?_, fun gi gv hg => (by cases hg)⟩
  have H := cr_757 M (cvp 184 (x' := (0 : Int)) (y' := (0 : Int)) (by show 0 + 0 = _; omega) (by show 0 + 0 = _; omega) (hm _ List.mem_cons_self)) (cvm (c := 61) (by decide) (x' := (34 : Int)) (y' := (1 : Int)) (by show 34 + 0 = _; omega) (by show 1 + 0 = _; omega) (hm _ (List.mem_cons_of_mem _ List.mem_cons_self))) hG
  obtain ⟨k0, -⟩ := H
  exact ⟨_, List.mem_cons_self, ρ, fun _ _ => rfl, (okM_c (pvp 182 (by show 0 + 0 = _; omega) (by show 0 + 0 = _; omega) k0) okM_n), okB_n, okF_n⟩
-- eg_1
theorem cr_758 (M : pM) (s0 s1 s2 : Int) (b0 : 0 ≤ s0 ∧ s0 ≤ 63) (b1 : (-2147483648) ≤ s1 ∧ s1 ≤ 2147483647) (b2 : (-2147483648) ≤ s2 ∧ s2 ≤ 2147483647) (m0 : HP 184 (0 : Int) (0 : Int) M) (m1 : (0 ≤ (s0) ∧ M 13 (s0).toNat = (s1))) (m2 : (0 ≤ (s0 + 64) ∧ M 69 (s0 + 64).toNat = (s2))) (hG : gI M) : (0 ≤ ((-1) * s1 + s2) ∧ 0 ≤ (s1 + (-1) * s2) ∧ True) := by
  obtain ⟨hcn, N, A, ha, hw, hc, R', he, hr⟩ := Eq.mp hp_184 m0
  have h1 : M 13 s0.toNat = _ := hc.1 s0.toNat (by omega)
  have h2 := hr.1 s0.toNat (by omega)
  rw [he 0 s0.toNat (by decide) (by decide)] at h2
  have h2 : M 69 (64 * 1 + s0.toNat) = _ := h2
  rw [m1.2] at h1
  have h3 := m2.2
  rw [show (s0 + 64).toNat = 64 * 1 + s0.toNat by omega, h2] at h3
  exact ⟨by omega, by omega, trivial⟩
theorem rul_758 : Rul r_758 := by
  refine ⟨fun _ ρ M hm hB hF hG => ?_, fun gi gv hg => (by cases hg)⟩
  have H := cr_758 M (ρ 0) (ρ 1) (ρ 2) (hB _ List.mem_cons_self) (hB _ (List.mem_cons_of_mem _ List.mem_cons_self)) (hB _ (List.mem_cons_of_mem _ (List.mem_cons_of_mem _ List.mem_cons_self))) (cvp 184 (x' := (0 : Int)) (y' := (0 : Int)) (by show 0 + 0 = _; omega) (by show 0 + 0 = _; omega) (hm _ List.mem_cons_self)) (cvm (c := 13) (by decide) (x' := ((ρ 0))) (y' := ((ρ 1))) (by show 0 + (1 * ρ 0 + 0) = _; omega) (by show 0 + (1 * ρ 1 + 0) = _; omega) (hm _ (List.mem_cons_of_mem _ List.mem_cons_self))) (cvm (c := 69) (by decide) (x' := ((ρ 0) + 64)) (y' := ((ρ 2))) (by show 64 + (1 * ρ 0 + 0) = _; omega) (by show 0 + (1 * ρ 2 + 0) = _; omega) (hm _ (List.mem_cons_of_mem _ (List.mem_cons_of_mem _ List.mem_cons_self)))) hG
  obtain ⟨f0, f1, -⟩ := H
  exact ⟨_, List.mem_cons_self, ρ, fun _ _ => rfl, okM_n, okB_n, (okF_c (by show 0 ≤ 0 + ((-1) * ρ 1 + (1 * ρ 2 + 0)); omega) (okF_c (by show 0 ≤ 0 + (1 * ρ 1 + ((-1) * ρ 2 + 0)); omega) okF_n))⟩
-- el_1
theorem cr_759 (M : pM) (s0 s1 s2 : Int) (b0 : 0 ≤ s0 ∧ s0 ≤ 47) (b1 : (-2147483648) ≤ s1 ∧ s1 ≤ 2147483647) (b2 : (-2147483648) ≤ s2 ∧ s2 ≤ 2147483647) (m0 : HP 184 (0 : Int) (0 : Int) M) (m1 : (0 ≤ (s0) ∧ M 14 (s0).toNat = (s1))) (m2 : (0 ≤ (s0 + 48) ∧ M 70 (s0 + 48).toNat = (s2))) (hG : gI M) : (0 ≤ ((-1) * s1 + s2) ∧ 0 ≤ (s1 + (-1) * s2) ∧ True) := by
  obtain ⟨hcn, N, A, ha, hw, hc, R', he, hr⟩ := Eq.mp hp_184 m0
  have h1 : M 14 s0.toNat = _ := hc.2.1 s0.toNat (by omega)
  have h2 := hr.2.1 s0.toNat (by omega)
  rw [he 1 s0.toNat (by decide) (by decide)] at h2
  have h2 : M 70 (48 * 1 + s0.toNat) = _ := h2
  rw [m1.2] at h1
  have h3 := m2.2
  rw [show (s0 + 48).toNat = 48 * 1 + s0.toNat by omega, h2] at h3
  exact ⟨by omega, by omega, trivial⟩
theorem rul_759 : Rul r_759 := by
  refine ⟨fun _ ρ M hm hB hF hG => ?_, fun gi gv hg => (by cases hg)⟩
  have H := cr_759 M (ρ 0) (ρ 1) (ρ 2) (hB _ List.mem_cons_self) (hB _ (List.mem_cons_of_mem _ List.mem_cons_self)) (hB _ (List.mem_cons_of_mem _ (List.mem_cons_of_mem _ List.mem_cons_self))) (cvp 184 (x' := (0 : Int)) (y' := (0 : Int)) (by show 0 + 0 = _; omega) (by show 0 + 0 = _; omega) (hm _ List.mem_cons_self)) (cvm (c := 14) (by decide) (x' := ((ρ 0))) (y' := ((ρ 1))) (by show 0 + (1 * ρ 0 + 0) = _; omega) (by show 0 + (1 * ρ 1 + 0) = _; omega) (hm _ (List.mem_cons_of_mem _ List.mem_cons_self))) (cvm (c := 70) (by decide) (x' := ((ρ 0) + 48)) (y' := ((ρ 2))) (by show 48 + (1 * ρ 0 + 0) = _; omega) (by show 0 + (1 * ρ 2 + 0) = _; omega) (hm _ (List.mem_cons_of_mem _ (List.mem_cons_of_mem _ List.mem_cons_self)))) hG
  obtain ⟨f0, f1, -⟩ := H
  exact ⟨_, List.mem_cons_self, ρ, fun _ _ => rfl, okM_n, okB_n, (okF_c (by show 0 ≤ 0 + ((-1) * ρ 1 + (1 * ρ 2 + 0)); omega) (okF_c (by show 0 ≤ 0 + (1 * ρ 1 + ((-1) * ρ 2 + 0)); omega) okF_n))⟩
-- et_1
theorem cr_760 (M : pM) (s0 s1 s2 : Int) (b0 : 0 ≤ s0 ∧ s0 ≤ 5) (b1 : (-2147483648) ≤ s1 ∧ s1 ≤ 2147483647) (b2 : (-2147483648) ≤ s2 ∧ s2 ≤ 2147483647) (m0 : HP 184 (0 : Int) (0 : Int) M) (m1 : (0 ≤ (s0) ∧ M 16 (s0).toNat = (s1))) (m2 : (0 ≤ (s0 + 6) ∧ M 73 (s0 + 6).toNat = (s2))) (hG : gI M) : (0 ≤ ((-1) * s1 + s2) ∧ 0 ≤ (s1 + (-1) * s2) ∧ True) := by
  obtain ⟨hcn, N, A, ha, hw, hc, R', he, hr⟩ := Eq.mp hp_184 m0
  have h1 : M 16 s0.toNat = _ := hc.2.2.2.2.1 s0.toNat (by omega)
  have h2 := hr.2.2.2.2.1 s0.toNat (by omega)
  rw [he 4 s0.toNat (by decide) (by decide)] at h2
  have h2 : M 73 (6 * 1 + s0.toNat) = _ := h2
  rw [m1.2] at h1
  have h3 := m2.2
  rw [show (s0 + 6).toNat = 6 * 1 + s0.toNat by omega, h2] at h3
  exact ⟨by omega, by omega, trivial⟩
theorem rul_760 : Rul r_760 := by
  refine ⟨fun _ ρ M hm hB hF hG => ?_, fun gi gv hg => (by cases hg)⟩
  have H := cr_760 M (ρ 0) (ρ 1) (ρ 2) (hB _ List.mem_cons_self) (hB _ (List.mem_cons_of_mem _ List.mem_cons_self)) (hB _ (List.mem_cons_of_mem _ (List.mem_cons_of_mem _ List.mem_cons_self))) (cvp 184 (x' := (0 : Int)) (y' := (0 : Int)) (by show 0 + 0 = _; omega) (by show 0 + 0 = _; omega) (hm _ List.mem_cons_self)) (cvm (c := 16) (by decide) (x' := ((ρ 0))) (y' := ((ρ 1))) (by show 0 + (1 * ρ 0 + 0) = _; omega) (by show 0 + (1 * ρ 1 + 0) = _; omega) (hm _ (List.mem_cons_of_mem _ List.mem_cons_self))) (cvm (c := 73) (by decide) (x' := ((ρ 0) + 6)) (y' := ((ρ 2))) (by show 6 + (1 * ρ 0 + 0) = _; omega) (by show 0 + (1 * ρ 2 + 0) = _; omega) (hm _ (List.mem_cons_of_mem _ (List.mem_cons_of_mem _ List.mem_cons_self)))) hG
  obtain ⟨f0, f1, -⟩ := H
  exact ⟨_, List.mem_cons_self, ρ, fun _ _ => rfl, okM_n, okB_n, (okF_c (by show 0 ≤ 0 + ((-1) * ρ 1 + (1 * ρ 2 + 0)); omega) (okF_c (by show 0 ≤ 0 + (1 * ρ 1 + ((-1) * ρ 2 + 0)); omega) okF_n))⟩
-- em_1
theorem cr_761 (M : pM) (s0 s1 s2 s3 : Int) (b0 : 0 ≤ s0 ∧ s0 ≤ 47) (b1 : 0 ≤ s1 ∧ s1 ≤ 47) (b2 : (-2147483648) ≤ s2 ∧ s2 ≤ 2147483647) (b3 : (-2147483648) ≤ s3 ∧ s3 ≤ 2147483647) (m0 : HP 184 (0 : Int) (0 : Int) M) (m1 : (0 ≤ (s0) ∧ M 14 (s0).toNat = (s2))) (m2 : (0 ≤ (s1 + 48) ∧ M 70 (s1 + 48).toNat = (s3))) (f0 : 0 ≤ ((-1) * s0 + s1)) (f1 : 0 ≤ (s0 + (-1) * s1)) (hG : gI M) : (0 ≤ ((-1) * s2 + s3) ∧ 0 ≤ (s2 + (-1) * s3) ∧ True) := by
  have e_ : s0 = s1 := by omega
  subst e_
  obtain ⟨hcn, N, A, ha, hw, hc, R', he, hr⟩ := Eq.mp hp_184 m0
  have h1 : M 14 s0.toNat = _ := hc.2.1 s0.toNat (by omega)
  have h2 := hr.2.1 s0.toNat (by omega)
  rw [he 1 s0.toNat (by decide) (by decide)] at h2
  have h2 : M 70 (48 * 1 + s0.toNat) = _ := h2
  rw [m1.2] at h1
  have h3 := m2.2
  rw [show (s0 + 48).toNat = 48 * 1 + s0.toNat by omega, h2] at h3
  exact ⟨by omega, by omega, trivial⟩
theorem rul_761 : Rul r_761 := by
  refine ⟨fun _ ρ M hm hB hF hG => ?_, fun gi gv hg => (by cases hg)⟩
  have H := cr_761 M (ρ 0) (ρ 1) (ρ 2) (ρ 3) (hB _ List.mem_cons_self) (hB _ (List.mem_cons_of_mem _ List.mem_cons_self)) (hB _ (List.mem_cons_of_mem _ (List.mem_cons_of_mem _ List.mem_cons_self))) (hB _ (List.mem_cons_of_mem _ (List.mem_cons_of_mem _ (List.mem_cons_of_mem _ List.mem_cons_self)))) (cvp 184 (x' := (0 : Int)) (y' := (0 : Int)) (by show 0 + 0 = _; omega) (by show 0 + 0 = _; omega) (hm _ List.mem_cons_self)) (cvm (c := 14) (by decide) (x' := ((ρ 0))) (y' := ((ρ 2))) (by show 0 + (1 * ρ 0 + 0) = _; omega) (by show 0 + (1 * ρ 2 + 0) = _; omega) (hm _ (List.mem_cons_of_mem _ List.mem_cons_self))) (cvm (c := 70) (by decide) (x' := ((ρ 1) + 48)) (y' := ((ρ 3))) (by show 48 + (1 * ρ 1 + 0) = _; omega) (by show 0 + (1 * ρ 3 + 0) = _; omega) (hm _ (List.mem_cons_of_mem _ (List.mem_cons_of_mem _ List.mem_cons_self)))) (by have h := hF _ List.mem_cons_self; have h : 0 ≤ 0 + ((-1) * ρ 0 + (1 * ρ 1 + 0)) := h; omega) (by have h := hF _ (List.mem_cons_of_mem _ List.mem_cons_self); have h : 0 ≤ 0 + (1 * ρ 0 + ((-1) * ρ 1 + 0)) := h; omega) hG
  obtain ⟨f0, f1, -⟩ := H
  exact ⟨_, List.mem_cons_self, ρ, fun _ _ => rfl, okM_n, okB_n, (okF_c (by show 0 ≤ 0 + ((-1) * ρ 2 + (1 * ρ 3 + 0)); omega) (okF_c (by show 0 ≤ 0 + (1 * ρ 2 + ((-1) * ρ 3 + 0)); omega) okF_n))⟩
-- eu_1
theorem cr_762 (M : pM) (s0 s1 s2 s3 : Int) (b0 : 0 ≤ s0 ∧ s0 ≤ 5) (b1 : 0 ≤ s1 ∧ s1 ≤ 5) (b2 : (-2147483648) ≤ s2 ∧ s2 ≤ 2147483647) (b3 : (-2147483648) ≤ s3 ∧ s3 ≤ 2147483647) (m0 : HP 184 (0 : Int) (0 : Int) M) (m1 : (0 ≤ (s0) ∧ M 16 (s0).toNat = (s2))) (m2 : (0 ≤ (s1 + 6) ∧ M 73 (s1 + 6).toNat = (s3))) (f0 : 0 ≤ ((-1) * s0 + s1)) (f1 : 0 ≤ (s0 + (-1) * s1)) (hG : gI M) : (0 ≤ ((-1) * s2 + s3) ∧ 0 ≤ (s2 + (-1) * s3) ∧ True) := by
  have e_ : s0 = s1 := by omega
  subst e_
  obtain ⟨hcn, N, A, ha, hw, hc, R', he, hr⟩ := Eq.mp hp_184 m0
  have h1 : M 16 s0.toNat = _ := hc.2.2.2.2.1 s0.toNat (by omega)
  have h2 := hr.2.2.2.2.1 s0.toNat (by omega)
  rw [he 4 s0.toNat (by decide) (by decide)] at h2
  have h2 : M 73 (6 * 1 + s0.toNat) = _ := h2
  rw [m1.2] at h1
  have h3 := m2.2
  rw [show (s0 + 6).toNat = 6 * 1 + s0.toNat by omega, h2] at h3
  exact ⟨by omega, by omega, trivial⟩
theorem rul_762 : Rul r_762 := by
  refine ⟨fun _ ρ M hm hB hF hG => ?_, fun gi gv hg => (by cases hg)⟩
  have H := cr_762 M (ρ 0) (ρ 1) (ρ 2) (ρ 3) (hB _ List.mem_cons_self) (hB _ (List.mem_cons_of_mem _ List.mem_cons_self)) (hB _ (List.mem_cons_of_mem _ (List.mem_cons_of_mem _ List.mem_cons_self))) (hB _ (List.mem_cons_of_mem _ (List.mem_cons_of_mem _ (List.mem_cons_of_mem _ List.mem_cons_self)))) (cvp 184 (x' := (0 : Int)) (y' := (0 : Int)) (by show 0 + 0 = _; omega) (by show 0 + 0 = _; omega) (hm _ List.mem_cons_self)) (cvm (c := 16) (by decide) (x' := ((ρ 0))) (y' := ((ρ 2))) (by show 0 + (1 * ρ 0 + 0) = _; omega) (by show 0 + (1 * ρ 2 + 0) = _; omega) (hm _ (List.mem_cons_of_mem _ List.mem_cons_self))) (cvm (c := 73) (by decide) (x' := ((ρ 1) + 6)) (y' := ((ρ 3))) (by show 6 + (1 * ρ 1 + 0) = _; omega) (by show 0 + (1 * ρ 3 + 0) = _; omega) (hm _ (List.mem_cons_of_mem _ (List.mem_cons_of_mem _ List.mem_cons_self)))) (by have h := hF _ List.mem_cons_self; have h : 0 ≤ 0 + ((-1) * ρ 0 + (1 * ρ 1 + 0)) := h; omega) (by have h := hF _ (List.mem_cons_of_mem _ List.mem_cons_self); have h : 0 ≤ 0 + (1 * ρ 0 + ((-1) * ρ 1 + 0)) := h; omega) hG
  obtain ⟨f0, f1, -⟩ := H
  exact ⟨_, List.mem_cons_self, ρ, fun _ _ => rfl, okM_n, okB_n, (okF_c (by show 0 ≤ 0 + ((-1) * ρ 2 + (1 * ρ 3 + 0)); omega) (okF_c (by show 0 ≤ 0 + (1 * ρ 2 + ((-1) * ρ 3 + 0)); omega) okF_n))⟩
-- ew_1
theorem cr_763 (M : pM) (s0 s1 s2 s3 : Int) (b0 : 0 ≤ s0 ∧ s0 ≤ 5) (b1 : (-2147483648) ≤ s1 ∧ s1 ≤ 2147483647) (b2 : (-2147483648) ≤ s2 ∧ s2 ≤ 2147483647) (b3 : (-2147483648) ≤ s3 ∧ s3 ≤ 2147483647) (m0 : HP 184 (0 : Int) (0 : Int) M) (m1 : (0 ≤ (s0) ∧ M 15 (s0).toNat = (s1))) (m2 : (0 ≤ (s0 + 6) ∧ M 71 (s0 + 6).toNat = (s2))) (m3 : (0 ≤ (s0 + 6) ∧ M 72 (s0 + 6).toNat = (s3))) (hG : gI M) : (0 ≤ ((-1) * s1 - 1) ∧ 0 ≤ (s1 + 1) ∧ 0 ≤ ((-1) * s2 - 1) ∧ 0 ≤ (s2 + 1) ∧ True) ∨ (0 ≤ ((-1) * s1 + s2 + 4 * s3) ∧ 0 ≤ (s1 + (-1) * s2 + (-4) * s3) ∧ 0 ≤ (s2) ∧ 0 ≤ (s3) ∧ True) := by
  obtain ⟨hcn, N, A, ha, hw, hc, R', he, hr⟩ := Eq.mp hp_184 m0
  have h1 : M 15 s0.toNat = if A 3 s0.toNat < 0 then -1 else 4 * A 4 s0.toNat + A 3 s0.toNat := hc.2.2.1 s0.toNat (by omega)
  rw [m1.2] at h1
  have h4 := hc.2.2.2.1 s0.toNat (by omega)
  have k0 := hr.2.2.1 s0.toNat (by omega)
  rw [he 2 s0.toNat (by decide) (by decide)] at k0
  have k0 : M 71 (6 * 1 + s0.toNat) = _ := k0
  have j0 := m2.2
  rw [show (s0 + 6).toNat = 6 * 1 + s0.toNat by omega, k0] at j0
  have k1 := hr.2.2.2.1 s0.toNat (by omega)
  rw [he 3 s0.toNat (by decide) (by decide)] at k1
  have k1 : M 72 (6 * 1 + s0.toNat) = _ := k1
  have j1 := m3.2
  rw [show (s0 + 6).toNat = 6 * 1 + s0.toNat by omega, k1] at j1
  by_cases hz : A 3 s0.toNat < 0
  · rw [if_pos hz] at h1; exact Or.inl ⟨by omega, by omega, by omega, by omega, trivial⟩
  · rw [if_neg hz] at h1; exact Or.inr ⟨by omega, by omega, by omega, by omega, trivial⟩
theorem rul_763 : Rul r_763 := by
  refine ⟨fun _ ρ M hm hB hF hG => ?_, fun gi gv hg => (by cases hg)⟩
  have H := cr_763 M (ρ 0) (ρ 1) (ρ 2) (ρ 3) (hB _ List.mem_cons_self) (hB _ (List.mem_cons_of_mem _ List.mem_cons_self)) (hB _ (List.mem_cons_of_mem _ (List.mem_cons_of_mem _ List.mem_cons_self))) (hB _ (List.mem_cons_of_mem _ (List.mem_cons_of_mem _ (List.mem_cons_of_mem _ List.mem_cons_self)))) (cvp 184 (x' := (0 : Int)) (y' := (0 : Int)) (by show 0 + 0 = _; omega) (by show 0 + 0 = _; omega) (hm _ List.mem_cons_self)) (cvm (c := 15) (by decide) (x' := ((ρ 0))) (y' := ((ρ 1))) (by show 0 + (1 * ρ 0 + 0) = _; omega) (by show 0 + (1 * ρ 1 + 0) = _; omega) (hm _ (List.mem_cons_of_mem _ List.mem_cons_self))) (cvm (c := 71) (by decide) (x' := ((ρ 0) + 6)) (y' := ((ρ 2))) (by show 6 + (1 * ρ 0 + 0) = _; omega) (by show 0 + (1 * ρ 2 + 0) = _; omega) (hm _ (List.mem_cons_of_mem _ (List.mem_cons_of_mem _ List.mem_cons_self)))) (cvm (c := 72) (by decide) (x' := ((ρ 0) + 6)) (y' := ((ρ 3))) (by show 6 + (1 * ρ 0 + 0) = _; omega) (by show 0 + (1 * ρ 3 + 0) = _; omega) (hm _ (List.mem_cons_of_mem _ (List.mem_cons_of_mem _ (List.mem_cons_of_mem _ List.mem_cons_self))))) hG
  rcases H with H | H
  · skip
    obtain ⟨f0, f1, f2, f3, -⟩ := H
    exact ⟨_, List.mem_cons_self, ρ, fun _ _ => rfl, okM_n, okB_n, (okF_c (by show 0 ≤ (-1) + ((-1) * ρ 1 + 0); omega) (okF_c (by show 0 ≤ 1 + (1 * ρ 1 + 0); omega) (okF_c (by show 0 ≤ (-1) + ((-1) * ρ 2 + 0); omega) (okF_c (by show 0 ≤ 1 + (1 * ρ 2 + 0); omega) okF_n))))⟩
  · skip
    obtain ⟨f0, f1, f2, f3, -⟩ := H
    exact ⟨_, (List.mem_cons_of_mem _ List.mem_cons_self), ρ, fun _ _ => rfl, okM_n, okB_n, (okF_c (by show 0 ≤ 0 + ((-1) * ρ 1 + (1 * ρ 2 + (4 * ρ 3 + 0))); omega) (okF_c (by show 0 ≤ 0 + (1 * ρ 1 + ((-1) * ρ 2 + ((-4) * ρ 3 + 0))); omega) (okF_c (by show 0 ≤ 0 + (1 * ρ 2 + 0); omega) (okF_c (by show 0 ≤ 0 + (1 * ρ 3 + 0); omega) okF_n))))⟩
-- ecw_1
theorem cr_764 (M : pM) (s0 s1 : Int) (b0 : 0 ≤ s0 ∧ s0 ≤ 12) (b1 : 0 ≤ s1 ∧ s1 ≤ 12) (m0 : HP 184 (0 : Int) (0 : Int) M) (m1 : (0 ≤ (7 : Int) ∧ M 12 (7 : Int).toNat = (s0))) (m2 : (0 ≤ (1 : Int) ∧ M 65 (1 : Int).toNat = (s1))) (hG : gI M) : (0 ≤ ((-1) * s0 + s1) ∧ 0 ≤ (s0 + (-1) * s1) ∧ True) := by
  obtain ⟨hcn, N, A, ha, hw, hc, R', he, hr⟩ := Eq.mp hp_184 m0
  obtain ⟨e1, e2, e3⟩ := hcn
  have g0 : M 12 7 = s0 := m1.2
  have g1 : M 65 1 = s1 := m2.2
  have e : M 12 7 = M 65 1 := e1
  exact ⟨by omega, by omega, trivial⟩
theorem rul_764 : Rul r_764 := by
  refine ⟨fun _ ρ M hm hB hF hG => ?_, fun gi gv hg => (by cases hg)⟩
  have H := cr_764 M (ρ 0) (ρ 1) (hB _ List.mem_cons_self) (hB _ (List.mem_cons_of_mem _ List.mem_cons_self)) (cvp 184 (x' := (0 : Int)) (y' := (0 : Int)) (by show 0 + 0 = _; omega) (by show 0 + 0 = _; omega) (hm _ List.mem_cons_self)) (cvm (c := 12) (by decide) (x' := (7 : Int)) (y' := ((ρ 0))) (by show 7 + 0 = _; omega) (by show 0 + (1 * ρ 0 + 0) = _; omega) (hm _ (List.mem_cons_of_mem _ List.mem_cons_self))) (cvm (c := 65) (by decide) (x' := (1 : Int)) (y' := ((ρ 1))) (by show 1 + 0 = _; omega) (by show 0 + (1 * ρ 1 + 0) = _; omega) (hm _ (List.mem_cons_of_mem _ (List.mem_cons_of_mem _ List.mem_cons_self)))) hG
  obtain ⟨f0, f1, -⟩ := H
  exact ⟨_, List.mem_cons_self, ρ, fun _ _ => rfl, okM_n, okB_n, (okF_c (by show 0 ≤ 0 + ((-1) * ρ 0 + (1 * ρ 1 + 0)); omega) (okF_c (by show 0 ≤ 0 + (1 * ρ 0 + ((-1) * ρ 1 + 0)); omega) okF_n))⟩
-- ecr_1
theorem cr_765 (M : pM) (s0 s1 : Int) (b0 : 0 ≤ s0 ∧ s0 ≤ 20) (b1 : 0 ≤ s1 ∧ s1 ≤ 20) (m0 : HP 184 (0 : Int) (0 : Int) M) (m1 : (0 ≤ (10 : Int) ∧ M 12 (10 : Int).toNat = (s0))) (m2 : (0 ≤ (1 : Int) ∧ M 67 (1 : Int).toNat = (s1))) (hG : gI M) : (0 ≤ ((-1) * s0 + s1) ∧ 0 ≤ (s0 + (-1) * s1) ∧ True) := by
  obtain ⟨hcn, N, A, ha, hw, hc, R', he, hr⟩ := Eq.mp hp_184 m0
  obtain ⟨e1, e2, e3⟩ := hcn
  have g0 : M 12 10 = s0 := m1.2
  have g1 : M 67 1 = s1 := m2.2
  have e : M 12 10 = M 67 1 := e2
  exact ⟨by omega, by omega, trivial⟩
theorem rul_765 : Rul r_765 := by
  refine ⟨fun _ ρ M hm hB hF hG => ?_, fun gi gv hg => (by cases hg)⟩
  have H := cr_765 M (ρ 0) (ρ 1) (hB _ List.mem_cons_self) (hB _ (List.mem_cons_of_mem _ List.mem_cons_self)) (cvp 184 (x' := (0 : Int)) (y' := (0 : Int)) (by show 0 + 0 = _; omega) (by show 0 + 0 = _; omega) (hm _ List.mem_cons_self)) (cvm (c := 12) (by decide) (x' := (10 : Int)) (y' := ((ρ 0))) (by show 10 + 0 = _; omega) (by show 0 + (1 * ρ 0 + 0) = _; omega) (hm _ (List.mem_cons_of_mem _ List.mem_cons_self))) (cvm (c := 67) (by decide) (x' := (1 : Int)) (y' := ((ρ 1))) (by show 1 + 0 = _; omega) (by show 0 + (1 * ρ 1 + 0) = _; omega) (hm _ (List.mem_cons_of_mem _ (List.mem_cons_of_mem _ List.mem_cons_self)))) hG
  obtain ⟨f0, f1, -⟩ := H
  exact ⟨_, List.mem_cons_self, ρ, fun _ _ => rfl, okM_n, okB_n, (okF_c (by show 0 ≤ 0 + ((-1) * ρ 0 + (1 * ρ 1 + 0)); omega) (okF_c (by show 0 ≤ 0 + (1 * ρ 0 + ((-1) * ρ 1 + 0)); omega) okF_n))⟩
-- ecg_1
theorem cr_766 (M : pM) (s0 s1 : Int) (b0 : 0 ≤ s0 ∧ s0 ≤ 4) (b1 : 0 ≤ s1 ∧ s1 ≤ 4) (m0 : HP 184 (0 : Int) (0 : Int) M) (m1 : (0 ≤ (13 : Int) ∧ M 12 (13 : Int).toNat = (s0))) (m2 : (0 ≤ (1 : Int) ∧ M 68 (1 : Int).toNat = (s1))) (hG : gI M) : (0 ≤ ((-1) * s0 + s1) ∧ 0 ≤ (s0 + (-1) * s1) ∧ True) := by
  obtain ⟨hcn, N, A, ha, hw, hc, R', he, hr⟩ := Eq.mp hp_184 m0
  obtain ⟨e1, e2, e3⟩ := hcn
  have g0 : M 12 13 = s0 := m1.2
  have g1 : M 68 1 = s1 := m2.2
  have e : M 12 13 = M 68 1 := e3
  exact ⟨by omega, by omega, trivial⟩
theorem rul_766 : Rul r_766 := by
  refine ⟨fun _ ρ M hm hB hF hG => ?_, fun gi gv hg => (by cases hg)⟩
  have H := cr_766 M (ρ 0) (ρ 1) (hB _ List.mem_cons_self) (hB _ (List.mem_cons_of_mem _ List.mem_cons_self)) (cvp 184 (x' := (0 : Int)) (y' := (0 : Int)) (by show 0 + 0 = _; omega) (by show 0 + 0 = _; omega) (hm _ List.mem_cons_self)) (cvm (c := 12) (by decide) (x' := (13 : Int)) (y' := ((ρ 0))) (by show 13 + 0 = _; omega) (by show 0 + (1 * ρ 0 + 0) = _; omega) (hm _ (List.mem_cons_of_mem _ List.mem_cons_self))) (cvm (c := 68) (by decide) (x' := (1 : Int)) (y' := ((ρ 1))) (by show 1 + 0 = _; omega) (by show 0 + (1 * ρ 1 + 0) = _; omega) (hm _ (List.mem_cons_of_mem _ (List.mem_cons_of_mem _ List.mem_cons_self)))) hG
  obtain ⟨f0, f1, -⟩ := H
  exact ⟨_, List.mem_cons_self, ρ, fun _ _ => rfl, okM_n, okB_n, (okF_c (by show 0 ≤ 0 + ((-1) * ρ 0 + (1 * ρ 1 + 0)); omega) (okF_c (by show 0 ≤ 0 + (1 * ρ 0 + ((-1) * ρ 1 + 0)); omega) okF_n))⟩
-- nt0ct_0
theorem cr_767 (M : pM) (s0 : Int) (b0 : 0 ≤ s0 ∧ s0 ≤ 5) (hG : gI M) : (HP 185 (9 * s0 + 1) (s0 + 1) M ∧ True) := by
  exact ⟨Eq.mpr hp_185 ⟨s0.toNat, s0.toNat + 1, by omega, Nat.le_refl _, by omega, by omega, fun k k1 k2 => by omega⟩, trivial⟩
theorem rul_767 : Rul r_767 := by
  refine ⟨fun _ ρ M hm hB hF hG => ?_, fun gi gv hg => (by cases hg)⟩
  have H := cr_767 M (ρ 0) (hB _ List.mem_cons_self) hG
  obtain ⟨k0, -⟩ := H
  exact ⟨_, List.mem_cons_self, ρ, fun _ _ => rfl, (okM_c (pvp 185 (by show 1 + (9 * ρ 0 + 0) = _; omega) (by show 1 + (1 * ρ 0 + 0) = _; omega) k0) okM_n), okB_n, okF_n⟩
-- ntxct_0
theorem cr_768 (M : pM) (s0 s1 s2 s3 : Int) (b0 : 0 ≤ s0 ∧ s0 ≤ 64) (b1 : 0 ≤ s1 ∧ s1 ≤ 6) (b2 : 0 ≤ s2 ∧ s2 ≤ 64) (b3 : 0 ≤ s3 ∧ s3 ≤ 6) (m0 : HP 185 (s0) (s1) M) (f0 : 0 ≤ ((-1) * s0 + s2)) (f1 : 0 ≤ (s0 + (-1) * s2)) (f2 : 0 ≤ ((-1) * s1 + s3)) (f3 : 0 ≤ (s1 + (-1) * s3)) (hG : gI M) : (HP 185 (s2) (s3) M ∧ True) := by
  have e : s0 = s2 := by omega
  have e2 : s1 = s3 := by omega
  subst e
  subst e2
  exact ⟨m0, trivial⟩
theorem rul_768 : Rul r_768 := by
  refine ⟨fun _ ρ M hm hB hF hG => ?_, fun gi gv hg => (by cases hg)⟩
  have H := cr_768 M (ρ 0) (ρ 1) (ρ 2) (ρ 3) (hB _ List.mem_cons_self) (hB _ (List.mem_cons_of_mem _ List.mem_cons_self)) (hB _ (List.mem_cons_of_mem _ (List.mem_cons_of_mem _ List.mem_cons_self))) (hB _ (List.mem_cons_of_mem _ (List.mem_cons_of_mem _ (List.mem_cons_of_mem _ List.mem_cons_self)))) (cvp 185 (x' := ((ρ 0))) (y' := ((ρ 1))) (by show 0 + (1 * ρ 0 + 0) = _; omega) (by show 0 + (1 * ρ 1 + 0) = _; omega) (hm _ List.mem_cons_self)) (by have h := hF _ List.mem_cons_self; have h : 0 ≤ 0 + ((-1) * ρ 0 + (1 * ρ 2 + 0)) := h; omega) (by have h := hF _ (List.mem_cons_of_mem _ List.mem_cons_self); have h : 0 ≤ 0 + (1 * ρ 0 + ((-1) * ρ 2 + 0)) := h; omega) (by have h := hF _ (List.mem_cons_of_mem _ (List.mem_cons_of_mem _ List.mem_cons_self)); have h : 0 ≤ 0 + ((-1) * ρ 1 + (1 * ρ 3 + 0)) := h; omega) (by have h := hF _ (List.mem_cons_of_mem _ (List.mem_cons_of_mem _ (List.mem_cons_of_mem _ List.mem_cons_self))); have h : 0 ≤ 0 + (1 * ρ 1 + ((-1) * ρ 3 + 0)) := h; omega) hG
  obtain ⟨k0, -⟩ := H
  exact ⟨_, List.mem_cons_self, ρ, fun _ _ => rfl, (okM_c (pvp 185 (by show 0 + (1 * ρ 2 + 0) = _; omega) (by show 0 + (1 * ρ 3 + 0) = _; omega) k0) okM_n), okB_n, okF_n⟩
-- ntnct_0
theorem cr_769 (M : pM) (s0 s1 s2 : Int) (b0 : 0 ≤ s0 ∧ s0 ≤ 5) (b1 : 0 ≤ s1 ∧ s1 ≤ 5) (b2 : (-2147483648) ≤ s2 ∧ s2 ≤ 2147483647) (m0 : HP 185 (8 * s0 + s1 + 1) (s1 + 1) M) (m1 : (0 ≤ (s1) ∧ M 7 (s1).toNat = (s2))) (f0 : 0 ≤ ((-1) * s2 - 1)) (hG : gI M) : (HP 185 (8 * s0 + s1) (s1) M ∧ True) := by
  obtain ⟨a, i, h1, h2, h3, h4, h5⟩ := Eq.mp hp_185 m0
  have ea : a = s0.toNat := by omega
  have ei : i = s1.toNat + 1 := by omega
  subst ea
  subst ei
  refine ⟨Eq.mpr hp_185 ⟨s0.toNat, s1.toNat, h1, by omega, by omega, by omega, fun k k1 k2 => ?_⟩, trivial⟩
  by_cases e : k = s1.toNat
  · have hv := m1.2
    rw [show (s1).toNat = 0 + k by omega] at hv
    rw [hv]; omega
  · exact h5 k (by omega) k2
theorem rul_769 : Rul r_769 := by
  refine ⟨fun _ ρ M hm hB hF hG => ?_, fun gi gv hg => (by cases hg)⟩
  have H := cr_769 M (ρ 0) (ρ 1) (ρ 2) (hB _ List.mem_cons_self) (hB _ (List.mem_cons_of_mem _ List.mem_cons_self)) (hB _ (List.mem_cons_of_mem _ (List.mem_cons_of_mem _ List.mem_cons_self))) (cvp 185 (x' := (8 * (ρ 0) + (ρ 1) + 1)) (y' := ((ρ 1) + 1)) (by show 1 + (8 * ρ 0 + (1 * ρ 1 + 0)) = _; omega) (by show 1 + (1 * ρ 1 + 0) = _; omega) (hm _ List.mem_cons_self)) (cvm (c := 7) (by decide) (x' := ((ρ 1))) (y' := ((ρ 2))) (by show 0 + (1 * ρ 1 + 0) = _; omega) (by show 0 + (1 * ρ 2 + 0) = _; omega) (hm _ (List.mem_cons_of_mem _ List.mem_cons_self))) (by have h := hF _ List.mem_cons_self; have h : 0 ≤ (-1) + ((-1) * ρ 2 + 0) := h; omega) hG
  obtain ⟨k0, -⟩ := H
  exact ⟨_, List.mem_cons_self, ρ, fun _ _ => rfl, (okM_c (pvp 185 (by show 0 + (8 * ρ 0 + (1 * ρ 1 + 0)) = _; omega) (by show 0 + (1 * ρ 1 + 0) = _; omega) k0) okM_n), okB_n, okF_n⟩
-- nt0ct_1
theorem cr_770 (M : pM) (s0 : Int) (b0 : 0 ≤ s0 ∧ s0 ≤ 5) (hG : gI M) : (HP 186 (9 * s0 + 1) (s0 + 1) M ∧ True) := by
  exact ⟨Eq.mpr hp_186 ⟨s0.toNat, s0.toNat + 1, by omega, Nat.le_refl _, by omega, by omega, fun k k1 k2 => by omega⟩, trivial⟩
theorem rul_770 : Rul r_770 := by
  refine ⟨fun _ ρ M hm hB hF hG => ?_, fun gi gv hg => (by cases hg)⟩
  have H := cr_770 M (ρ 0) (hB _ List.mem_cons_self) hG
  obtain ⟨k0, -⟩ := H
  exact ⟨_, List.mem_cons_self, ρ, fun _ _ => rfl, (okM_c (pvp 186 (by show 1 + (9 * ρ 0 + 0) = _; omega) (by show 1 + (1 * ρ 0 + 0) = _; omega) k0) okM_n), okB_n, okF_n⟩
-- ntxct_1
theorem cr_771 (M : pM) (s0 s1 s2 s3 : Int) (b0 : 0 ≤ s0 ∧ s0 ≤ 64) (b1 : 0 ≤ s1 ∧ s1 ≤ 6) (b2 : 0 ≤ s2 ∧ s2 ≤ 64) (b3 : 0 ≤ s3 ∧ s3 ≤ 6) (m0 : HP 186 (s0) (s1) M) (f0 : 0 ≤ ((-1) * s0 + s2)) (f1 : 0 ≤ (s0 + (-1) * s2)) (f2 : 0 ≤ ((-1) * s1 + s3)) (f3 : 0 ≤ (s1 + (-1) * s3)) (hG : gI M) : (HP 186 (s2) (s3) M ∧ True) := by
  have e : s0 = s2 := by omega
  have e2 : s1 = s3 := by omega
  subst e
  subst e2
  exact ⟨m0, trivial⟩
theorem rul_771 : Rul r_771 := by
  refine ⟨fun _ ρ M hm hB hF hG => ?_, fun gi gv hg => (by cases hg)⟩
  have H := cr_771 M (ρ 0) (ρ 1) (ρ 2) (ρ 3) (hB _ List.mem_cons_self) (hB _ (List.mem_cons_of_mem _ List.mem_cons_self)) (hB _ (List.mem_cons_of_mem _ (List.mem_cons_of_mem _ List.mem_cons_self))) (hB _ (List.mem_cons_of_mem _ (List.mem_cons_of_mem _ (List.mem_cons_of_mem _ List.mem_cons_self)))) (cvp 186 (x' := ((ρ 0))) (y' := ((ρ 1))) (by show 0 + (1 * ρ 0 + 0) = _; omega) (by show 0 + (1 * ρ 1 + 0) = _; omega) (hm _ List.mem_cons_self)) (by have h := hF _ List.mem_cons_self; have h : 0 ≤ 0 + ((-1) * ρ 0 + (1 * ρ 2 + 0)) := h; omega) (by have h := hF _ (List.mem_cons_of_mem _ List.mem_cons_self); have h : 0 ≤ 0 + (1 * ρ 0 + ((-1) * ρ 2 + 0)) := h; omega) (by have h := hF _ (List.mem_cons_of_mem _ (List.mem_cons_of_mem _ List.mem_cons_self)); have h : 0 ≤ 0 + ((-1) * ρ 1 + (1 * ρ 3 + 0)) := h; omega) (by have h := hF _ (List.mem_cons_of_mem _ (List.mem_cons_of_mem _ (List.mem_cons_of_mem _ List.mem_cons_self))); have h : 0 ≤ 0 + (1 * ρ 1 + ((-1) * ρ 3 + 0)) := h; omega) hG
  obtain ⟨k0, -⟩ := H
  exact ⟨_, List.mem_cons_self, ρ, fun _ _ => rfl, (okM_c (pvp 186 (by show 0 + (1 * ρ 2 + 0) = _; omega) (by show 0 + (1 * ρ 3 + 0) = _; omega) k0) okM_n), okB_n, okF_n⟩
-- ntnct_1
theorem cr_772 (M : pM) (s0 s1 s2 : Int) (b0 : 0 ≤ s0 ∧ s0 ≤ 5) (b1 : 0 ≤ s1 ∧ s1 ≤ 5) (b2 : (-2147483648) ≤ s2 ∧ s2 ≤ 2147483647) (m0 : HP 186 (8 * s0 + s1 + 1) (s1 + 1) M) (m1 : (0 ≤ (s1) ∧ M 16 (s1).toNat = (s2))) (f0 : 0 ≤ ((-1) * s2 - 1)) (hG : gI M) : (HP 186 (8 * s0 + s1) (s1) M ∧ True) := by
  obtain ⟨a, i, h1, h2, h3, h4, h5⟩ := Eq.mp hp_186 m0
  have ea : a = s0.toNat := by omega
  have ei : i = s1.toNat + 1 := by omega
  subst ea
  subst ei
  refine ⟨Eq.mpr hp_186 ⟨s0.toNat, s1.toNat, h1, by omega, by omega, by omega, fun k k1 k2 => ?_⟩, trivial⟩
  by_cases e : k = s1.toNat
  · have hv := m1.2
    rw [show (s1).toNat = 0 + k by omega] at hv
    rw [hv]; omega
  · exact h5 k (by omega) k2
theorem rul_772 : Rul r_772 := by
  refine ⟨fun _ ρ M hm hB hF hG => ?_, fun gi gv hg => (by cases hg)⟩
  have H := cr_772 M (ρ 0) (ρ 1) (ρ 2) (hB _ List.mem_cons_self) (hB _ (List.mem_cons_of_mem _ List.mem_cons_self)) (hB _ (List.mem_cons_of_mem _ (List.mem_cons_of_mem _ List.mem_cons_self))) (cvp 186 (x' := (8 * (ρ 0) + (ρ 1) + 1)) (y' := ((ρ 1) + 1)) (by show 1 + (8 * ρ 0 + (1 * ρ 1 + 0)) = _; omega) (by show 1 + (1 * ρ 1 + 0) = _; omega) (hm _ List.mem_cons_self)) (cvm (c := 16) (by decide) (x' := ((ρ 1))) (y' := ((ρ 2))) (by show 0 + (1 * ρ 1 + 0) = _; omega) (by show 0 + (1 * ρ 2 + 0) = _; omega) (hm _ (List.mem_cons_of_mem _ List.mem_cons_self))) (by have h := hF _ List.mem_cons_self; have h : 0 ≤ (-1) + ((-1) * ρ 2 + 0) := h; omega) hG
  obtain ⟨k0, -⟩ := H
  exact ⟨_, List.mem_cons_self, ρ, fun _ _ => rfl, (okM_c (pvp 186 (by show 0 + (8 * ρ 0 + (1 * ρ 1 + 0)) = _; omega) (by show 0 + (1 * ρ 1 + 0) = _; omega) k0) okM_n), okB_n, okF_n⟩
-- nt0rt_0
theorem cr_773 (M : pM) (s0 : Int) (b0 : 0 ≤ s0 ∧ s0 ≤ 5) (hG : gI M) : (HP 187 (9 * s0 + 1) (s0 + 1) M ∧ True) := by
  exact ⟨Eq.mpr hp_187 ⟨s0.toNat, s0.toNat + 1, by omega, Nat.le_refl _, by omega, by omega, fun k k1 k2 => by omega⟩, trivial⟩
theorem rul_773 : Rul r_773 := by
  refine ⟨fun _ ρ M hm hB hF hG => ?_, fun gi gv hg => (by cases hg)⟩
  have H := cr_773 M (ρ 0) (hB _ List.mem_cons_self) hG
  obtain ⟨k0, -⟩ := H
  exact ⟨_, List.mem_cons_self, ρ, fun _ _ => rfl, (okM_c (pvp 187 (by show 1 + (9 * ρ 0 + 0) = _; omega) (by show 1 + (1 * ρ 0 + 0) = _; omega) k0) okM_n), okB_n, okF_n⟩
-- ntxrt_0
theorem cr_774 (M : pM) (s0 s1 s2 s3 : Int) (b0 : 0 ≤ s0 ∧ s0 ≤ 64) (b1 : 0 ≤ s1 ∧ s1 ≤ 6) (b2 : 0 ≤ s2 ∧ s2 ≤ 64) (b3 : 0 ≤ s3 ∧ s3 ≤ 6) (m0 : HP 187 (s0) (s1) M) (f0 : 0 ≤ ((-1) * s0 + s2)) (f1 : 0 ≤ (s0 + (-1) * s2)) (f2 : 0 ≤ ((-1) * s1 + s3)) (f3 : 0 ≤ (s1 + (-1) * s3)) (hG : gI M) : (HP 187 (s2) (s3) M ∧ True) := by
  have e : s0 = s2 := by omega
  have e2 : s1 = s3 := by omega
  subst e
  subst e2
  exact ⟨m0, trivial⟩
theorem rul_774 : Rul r_774 := by
  refine ⟨fun _ ρ M hm hB hF hG => ?_, fun gi gv hg => (by cases hg)⟩
  have H := cr_774 M (ρ 0) (ρ 1) (ρ 2) (ρ 3) (hB _ List.mem_cons_self) (hB _ (List.mem_cons_of_mem _ List.mem_cons_self)) (hB _ (List.mem_cons_of_mem _ (List.mem_cons_of_mem _ List.mem_cons_self))) (hB _ (List.mem_cons_of_mem _ (List.mem_cons_of_mem _ (List.mem_cons_of_mem _ List.mem_cons_self)))) (cvp 187 (x' := ((ρ 0))) (y' := ((ρ 1))) (by show 0 + (1 * ρ 0 + 0) = _; omega) (by show 0 + (1 * ρ 1 + 0) = _; omega) (hm _ List.mem_cons_self)) (by have h := hF _ List.mem_cons_self; have h : 0 ≤ 0 + ((-1) * ρ 0 + (1 * ρ 2 + 0)) := h; omega) (by have h := hF _ (List.mem_cons_of_mem _ List.mem_cons_self); have h : 0 ≤ 0 + (1 * ρ 0 + ((-1) * ρ 2 + 0)) := h; omega) (by have h := hF _ (List.mem_cons_of_mem _ (List.mem_cons_of_mem _ List.mem_cons_self)); have h : 0 ≤ 0 + ((-1) * ρ 1 + (1 * ρ 3 + 0)) := h; omega) (by have h := hF _ (List.mem_cons_of_mem _ (List.mem_cons_of_mem _ (List.mem_cons_of_mem _ List.mem_cons_self))); have h : 0 ≤ 0 + (1 * ρ 1 + ((-1) * ρ 3 + 0)) := h; omega) hG
  obtain ⟨k0, -⟩ := H
  exact ⟨_, List.mem_cons_self, ρ, fun _ _ => rfl, (okM_c (pvp 187 (by show 0 + (1 * ρ 2 + 0) = _; omega) (by show 0 + (1 * ρ 3 + 0) = _; omega) k0) okM_n), okB_n, okF_n⟩
-- ntnrt_0
theorem cr_775 (M : pM) (s0 s1 s2 : Int) (b0 : 0 ≤ s0 ∧ s0 ≤ 5) (b1 : 0 ≤ s1 ∧ s1 ≤ 5) (b2 : (-2147483648) ≤ s2 ∧ s2 ≤ 2147483647) (m0 : HP 187 (8 * s0 + s1 + 1) (s1 + 1) M) (m1 : (0 ≤ (s1) ∧ M 73 (s1).toNat = (s2))) (f0 : 0 ≤ ((-1) * s2 - 1)) (hG : gI M) : (HP 187 (8 * s0 + s1) (s1) M ∧ True) := by
  obtain ⟨a, i, h1, h2, h3, h4, h5⟩ := Eq.mp hp_187 m0
  have ea : a = s0.toNat := by omega
  have ei : i = s1.toNat + 1 := by omega
  subst ea
  subst ei
  refine ⟨Eq.mpr hp_187 ⟨s0.toNat, s1.toNat, h1, by omega, by omega, by omega, fun k k1 k2 => ?_⟩, trivial⟩
  by_cases e : k = s1.toNat
  · have hv := m1.2
    rw [show (s1).toNat = 0 + k by omega] at hv
    rw [hv]; omega
  · exact h5 k (by omega) k2
theorem rul_775 : Rul r_775 := by
  refine ⟨fun _ ρ M hm hB hF hG => ?_, fun gi gv hg => (by cases hg)⟩
  have H := cr_775 M (ρ 0) (ρ 1) (ρ 2) (hB _ List.mem_cons_self) (hB _ (List.mem_cons_of_mem _ List.mem_cons_self)) (hB _ (List.mem_cons_of_mem _ (List.mem_cons_of_mem _ List.mem_cons_self))) (cvp 187 (x' := (8 * (ρ 0) + (ρ 1) + 1)) (y' := ((ρ 1) + 1)) (by show 1 + (8 * ρ 0 + (1 * ρ 1 + 0)) = _; omega) (by show 1 + (1 * ρ 1 + 0) = _; omega) (hm _ List.mem_cons_self)) (cvm (c := 73) (by decide) (x' := ((ρ 1))) (y' := ((ρ 2))) (by show 0 + (1 * ρ 1 + 0) = _; omega) (by show 0 + (1 * ρ 2 + 0) = _; omega) (hm _ (List.mem_cons_of_mem _ List.mem_cons_self))) (by have h := hF _ List.mem_cons_self; have h : 0 ≤ (-1) + ((-1) * ρ 2 + 0) := h; omega) hG
  obtain ⟨k0, -⟩ := H
  exact ⟨_, List.mem_cons_self, ρ, fun _ _ => rfl, (okM_c (pvp 187 (by show 0 + (8 * ρ 0 + (1 * ρ 1 + 0)) = _; omega) (by show 0 + (1 * ρ 1 + 0) = _; omega) k0) okM_n), okB_n, okF_n⟩
-- nt0rt_1
theorem cr_776 (M : pM) (s0 : Int) (b0 : 0 ≤ s0 ∧ s0 ≤ 5) (hG : gI M) : (HP 188 (9 * s0 + 1) (s0 + 1) M ∧ True) := by
  exact ⟨Eq.mpr hp_188 ⟨s0.toNat, s0.toNat + 1, by omega, Nat.le_refl _, by omega, by omega, fun k k1 k2 => by omega⟩, trivial⟩
theorem rul_776 : Rul r_776 := by
  refine ⟨fun _ ρ M hm hB hF hG => ?_, fun gi gv hg => (by cases hg)⟩
  have H := cr_776 M (ρ 0) (hB _ List.mem_cons_self) hG
  obtain ⟨k0, -⟩ := H
  exact ⟨_, List.mem_cons_self, ρ, fun _ _ => rfl, (okM_c (pvp 188 (by show 1 + (9 * ρ 0 + 0) = _; omega) (by show 1 + (1 * ρ 0 + 0) = _; omega) k0) okM_n), okB_n, okF_n⟩
-- ntxrt_1
theorem cr_777 (M : pM) (s0 s1 s2 s3 : Int) (b0 : 0 ≤ s0 ∧ s0 ≤ 64) (b1 : 0 ≤ s1 ∧ s1 ≤ 6) (b2 : 0 ≤ s2 ∧ s2 ≤ 64) (b3 : 0 ≤ s3 ∧ s3 ≤ 6) (m0 : HP 188 (s0) (s1) M) (f0 : 0 ≤ ((-1) * s0 + s2)) (f1 : 0 ≤ (s0 + (-1) * s2)) (f2 : 0 ≤ ((-1) * s1 + s3)) (f3 : 0 ≤ (s1 + (-1) * s3)) (hG : gI M) : (HP 188 (s2) (s3) M ∧ True) := by
  have e : s0 = s2 := by omega
  have e2 : s1 = s3 := by omega
  subst e
  subst e2
  exact ⟨m0, trivial⟩
theorem rul_777 : Rul r_777 := by
  refine ⟨fun _ ρ M hm hB hF hG => ?_, fun gi gv hg => (by cases hg)⟩
  have H := cr_777 M (ρ 0) (ρ 1) (ρ 2) (ρ 3) (hB _ List.mem_cons_self) (hB _ (List.mem_cons_of_mem _ List.mem_cons_self)) (hB _ (List.mem_cons_of_mem _ (List.mem_cons_of_mem _ List.mem_cons_self))) (hB _ (List.mem_cons_of_mem _ (List.mem_cons_of_mem _ (List.mem_cons_of_mem _ List.mem_cons_self)))) (cvp 188 (x' := ((ρ 0))) (y' := ((ρ 1))) (by show 0 + (1 * ρ 0 + 0) = _; omega) (by show 0 + (1 * ρ 1 + 0) = _; omega) (hm _ List.mem_cons_self)) (by have h := hF _ List.mem_cons_self; have h : 0 ≤ 0 + ((-1) * ρ 0 + (1 * ρ 2 + 0)) := h; omega) (by have h := hF _ (List.mem_cons_of_mem _ List.mem_cons_self); have h : 0 ≤ 0 + (1 * ρ 0 + ((-1) * ρ 2 + 0)) := h; omega) (by have h := hF _ (List.mem_cons_of_mem _ (List.mem_cons_of_mem _ List.mem_cons_self)); have h : 0 ≤ 0 + ((-1) * ρ 1 + (1 * ρ 3 + 0)) := h; omega) (by have h := hF _ (List.mem_cons_of_mem _ (List.mem_cons_of_mem _ (List.mem_cons_of_mem _ List.mem_cons_self))); have h : 0 ≤ 0 + (1 * ρ 1 + ((-1) * ρ 3 + 0)) := h; omega) hG
  obtain ⟨k0, -⟩ := H
  exact ⟨_, List.mem_cons_self, ρ, fun _ _ => rfl, (okM_c (pvp 188 (by show 0 + (1 * ρ 2 + 0) = _; omega) (by show 0 + (1 * ρ 3 + 0) = _; omega) k0) okM_n), okB_n, okF_n⟩
-- ntnrt_1
theorem cr_778 (M : pM) (s0 s1 s2 : Int) (b0 : 0 ≤ s0 ∧ s0 ≤ 5) (b1 : 0 ≤ s1 ∧ s1 ≤ 5) (b2 : (-2147483648) ≤ s2 ∧ s2 ≤ 2147483647) (m0 : HP 188 (8 * s0 + s1 + 1) (s1 + 1) M) (m1 : (0 ≤ (s1 + 6) ∧ M 73 (s1 + 6).toNat = (s2))) (f0 : 0 ≤ ((-1) * s2 - 1)) (hG : gI M) : (HP 188 (8 * s0 + s1) (s1) M ∧ True) := by
  obtain ⟨a, i, h1, h2, h3, h4, h5⟩ := Eq.mp hp_188 m0
  have ea : a = s0.toNat := by omega
  have ei : i = s1.toNat + 1 := by omega
  subst ea
  subst ei
  refine ⟨Eq.mpr hp_188 ⟨s0.toNat, s1.toNat, h1, by omega, by omega, by omega, fun k k1 k2 => ?_⟩, trivial⟩
  by_cases e : k = s1.toNat
  · have hv := m1.2
    rw [show (s1 + 6).toNat = 6 + k by omega] at hv
    rw [hv]; omega
  · exact h5 k (by omega) k2
theorem rul_778 : Rul r_778 := by
  refine ⟨fun _ ρ M hm hB hF hG => ?_, fun gi gv hg => (by cases hg)⟩
  have H := cr_778 M (ρ 0) (ρ 1) (ρ 2) (hB _ List.mem_cons_self) (hB _ (List.mem_cons_of_mem _ List.mem_cons_self)) (hB _ (List.mem_cons_of_mem _ (List.mem_cons_of_mem _ List.mem_cons_self))) (cvp 188 (x' := (8 * (ρ 0) + (ρ 1) + 1)) (y' := ((ρ 1) + 1)) (by show 1 + (8 * ρ 0 + (1 * ρ 1 + 0)) = _; omega) (by show 1 + (1 * ρ 1 + 0) = _; omega) (hm _ List.mem_cons_self)) (cvm (c := 73) (by decide) (x' := ((ρ 1) + 6)) (y' := ((ρ 2))) (by show 6 + (1 * ρ 1 + 0) = _; omega) (by show 0 + (1 * ρ 2 + 0) = _; omega) (hm _ (List.mem_cons_of_mem _ List.mem_cons_self))) (by have h := hF _ List.mem_cons_self; have h : 0 ≤ (-1) + ((-1) * ρ 2 + 0) := h; omega) hG
  obtain ⟨k0, -⟩ := H
  exact ⟨_, List.mem_cons_self, ρ, fun _ _ => rfl, (okM_c (pvp 188 (by show 0 + (8 * ρ 0 + (1 * ρ 1 + 0)) = _; omega) (by show 0 + (1 * ρ 1 + 0) = _; omega) k0) okM_n), okB_n, okF_n⟩
-- nt0cw_0
theorem cr_779 (M : pM) (s0 : Int) (b0 : 0 ≤ s0 ∧ s0 ≤ 5) (hG : gI M) : (HP 189 (9 * s0 + 1) (s0 + 1) M ∧ True) := by
  exact ⟨Eq.mpr hp_189 ⟨s0.toNat, s0.toNat + 1, by omega, Nat.le_refl _, by omega, by omega, fun k k1 k2 => by omega⟩, trivial⟩
theorem rul_779 : Rul r_779 := by
  refine ⟨fun _ ρ M hm hB hF hG => ?_, fun gi gv hg => (by cases hg)⟩
  have H := cr_779 M (ρ 0) (hB _ List.mem_cons_self) hG
  obtain ⟨k0, -⟩ := H
  exact ⟨_, List.mem_cons_self, ρ, fun _ _ => rfl, (okM_c (pvp 189 (by show 1 + (9 * ρ 0 + 0) = _; omega) (by show 1 + (1 * ρ 0 + 0) = _; omega) k0) okM_n), okB_n, okF_n⟩
-- ntxcw_0
theorem cr_780 (M : pM) (s0 s1 s2 s3 : Int) (b0 : 0 ≤ s0 ∧ s0 ≤ 64) (b1 : 0 ≤ s1 ∧ s1 ≤ 6) (b2 : 0 ≤ s2 ∧ s2 ≤ 64) (b3 : 0 ≤ s3 ∧ s3 ≤ 6) (m0 : HP 189 (s0) (s1) M) (f0 : 0 ≤ ((-1) * s0 + s2)) (f1 : 0 ≤ (s0 + (-1) * s2)) (f2 : 0 ≤ ((-1) * s1 + s3)) (f3 : 0 ≤ (s1 + (-1) * s3)) (hG : gI M) : (HP 189 (s2) (s3) M ∧ True) := by
  have e : s0 = s2 := by omega
  have e2 : s1 = s3 := by omega
  subst e
  subst e2
  exact ⟨m0, trivial⟩
theorem rul_780 : Rul r_780 := by
  refine ⟨fun _ ρ M hm hB hF hG => ?_, fun gi gv hg => (by cases hg)⟩
  have H := cr_780 M (ρ 0) (ρ 1) (ρ 2) (ρ 3) (hB _ List.mem_cons_self) (hB _ (List.mem_cons_of_mem _ List.mem_cons_self)) (hB _ (List.mem_cons_of_mem _ (List.mem_cons_of_mem _ List.mem_cons_self))) (hB _ (List.mem_cons_of_mem _ (List.mem_cons_of_mem _ (List.mem_cons_of_mem _ List.mem_cons_self)))) (cvp 189 (x' := ((ρ 0))) (y' := ((ρ 1))) (by show 0 + (1 * ρ 0 + 0) = _; omega) (by show 0 + (1 * ρ 1 + 0) = _; omega) (hm _ List.mem_cons_self)) (by have h := hF _ List.mem_cons_self; have h : 0 ≤ 0 + ((-1) * ρ 0 + (1 * ρ 2 + 0)) := h; omega) (by have h := hF _ (List.mem_cons_of_mem _ List.mem_cons_self); have h : 0 ≤ 0 + (1 * ρ 0 + ((-1) * ρ 2 + 0)) := h; omega) (by have h := hF _ (List.mem_cons_of_mem _ (List.mem_cons_of_mem _ List.mem_cons_self)); have h : 0 ≤ 0 + ((-1) * ρ 1 + (1 * ρ 3 + 0)) := h; omega) (by have h := hF _ (List.mem_cons_of_mem _ (List.mem_cons_of_mem _ (List.mem_cons_of_mem _ List.mem_cons_self))); have h : 0 ≤ 0 + (1 * ρ 1 + ((-1) * ρ 3 + 0)) := h; omega) hG
  obtain ⟨k0, -⟩ := H
  exact ⟨_, List.mem_cons_self, ρ, fun _ _ => rfl, (okM_c (pvp 189 (by show 0 + (1 * ρ 2 + 0) = _; omega) (by show 0 + (1 * ρ 3 + 0) = _; omega) k0) okM_n), okB_n, okF_n⟩
-- ntncw_0
theorem cr_781 (M : pM) (s0 s1 s2 : Int) (b0 : 0 ≤ s0 ∧ s0 ≤ 5) (b1 : 0 ≤ s1 ∧ s1 ≤ 5) (b2 : (-2147483648) ≤ s2 ∧ s2 ≤ 2147483647) (m0 : HP 189 (8 * s0 + s1 + 1) (s1 + 1) M) (m1 : (0 ≤ (s1) ∧ M 6 (s1).toNat = (s2))) (f0 : 0 ≤ ((-1) * s2 - 1)) (hG : gI M) : (HP 189 (8 * s0 + s1) (s1) M ∧ True) := by
  obtain ⟨a, i, h1, h2, h3, h4, h5⟩ := Eq.mp hp_189 m0
  have ea : a = s0.toNat := by omega
  have ei : i = s1.toNat + 1 := by omega
  subst ea
  subst ei
  refine ⟨Eq.mpr hp_189 ⟨s0.toNat, s1.toNat, h1, by omega, by omega, by omega, fun k k1 k2 => ?_⟩, trivial⟩
  by_cases e : k = s1.toNat
  · have hv := m1.2
    rw [show (s1).toNat = 0 + k by omega] at hv
    rw [hv]; omega
  · exact h5 k (by omega) k2
theorem rul_781 : Rul r_781 := by
  refine ⟨fun _ ρ M hm hB hF hG => ?_, fun gi gv hg => (by cases hg)⟩
  have H := cr_781 M (ρ 0) (ρ 1) (ρ 2) (hB _ List.mem_cons_self) (hB _ (List.mem_cons_of_mem _ List.mem_cons_self)) (hB _ (List.mem_cons_of_mem _ (List.mem_cons_of_mem _ List.mem_cons_self))) (cvp 189 (x' := (8 * (ρ 0) + (ρ 1) + 1)) (y' := ((ρ 1) + 1)) (by show 1 + (8 * ρ 0 + (1 * ρ 1 + 0)) = _; omega) (by show 1 + (1 * ρ 1 + 0) = _; omega) (hm _ List.mem_cons_self)) (cvm (c := 6) (by decide) (x' := ((ρ 1))) (y' := ((ρ 2))) (by show 0 + (1 * ρ 1 + 0) = _; omega) (by show 0 + (1 * ρ 2 + 0) = _; omega) (hm _ (List.mem_cons_of_mem _ List.mem_cons_self))) (by have h := hF _ List.mem_cons_self; have h : 0 ≤ (-1) + ((-1) * ρ 2 + 0) := h; omega) hG
  obtain ⟨k0, -⟩ := H
  exact ⟨_, List.mem_cons_self, ρ, fun _ _ => rfl, (okM_c (pvp 189 (by show 0 + (8 * ρ 0 + (1 * ρ 1 + 0)) = _; omega) (by show 0 + (1 * ρ 1 + 0) = _; omega) k0) okM_n), okB_n, okF_n⟩
-- nt0cw_1
theorem cr_782 (M : pM) (s0 : Int) (b0 : 0 ≤ s0 ∧ s0 ≤ 5) (hG : gI M) : (HP 190 (9 * s0 + 1) (s0 + 1) M ∧ True) := by
  exact ⟨Eq.mpr hp_190 ⟨s0.toNat, s0.toNat + 1, by omega, Nat.le_refl _, by omega, by omega, fun k k1 k2 => by omega⟩, trivial⟩
theorem rul_782 : Rul r_782 := by
  refine ⟨fun _ ρ M hm hB hF hG => ?_, fun gi gv hg => (by cases hg)⟩
  have H := cr_782 M (ρ 0) (hB _ List.mem_cons_self) hG
  obtain ⟨k0, -⟩ := H
  exact ⟨_, List.mem_cons_self, ρ, fun _ _ => rfl, (okM_c (pvp 190 (by show 1 + (9 * ρ 0 + 0) = _; omega) (by show 1 + (1 * ρ 0 + 0) = _; omega) k0) okM_n), okB_n, okF_n⟩
-- ntxcw_1
theorem cr_783 (M : pM) (s0 s1 s2 s3 : Int) (b0 : 0 ≤ s0 ∧ s0 ≤ 64) (b1 : 0 ≤ s1 ∧ s1 ≤ 6) (b2 : 0 ≤ s2 ∧ s2 ≤ 64) (b3 : 0 ≤ s3 ∧ s3 ≤ 6) (m0 : HP 190 (s0) (s1) M) (f0 : 0 ≤ ((-1) * s0 + s2)) (f1 : 0 ≤ (s0 + (-1) * s2)) (f2 : 0 ≤ ((-1) * s1 + s3)) (f3 : 0 ≤ (s1 + (-1) * s3)) (hG : gI M) : (HP 190 (s2) (s3) M ∧ True) := by
  have e : s0 = s2 := by omega
  have e2 : s1 = s3 := by omega
  subst e
  subst e2
  exact ⟨m0, trivial⟩
theorem rul_783 : Rul r_783 := by
  refine ⟨fun _ ρ M hm hB hF hG => ?_, fun gi gv hg => (by cases hg)⟩
  have H := cr_783 M (ρ 0) (ρ 1) (ρ 2) (ρ 3) (hB _ List.mem_cons_self) (hB _ (List.mem_cons_of_mem _ List.mem_cons_self)) (hB _ (List.mem_cons_of_mem _ (List.mem_cons_of_mem _ List.mem_cons_self))) (hB _ (List.mem_cons_of_mem _ (List.mem_cons_of_mem _ (List.mem_cons_of_mem _ List.mem_cons_self)))) (cvp 190 (x' := ((ρ 0))) (y' := ((ρ 1))) (by show 0 + (1 * ρ 0 + 0) = _; omega) (by show 0 + (1 * ρ 1 + 0) = _; omega) (hm _ List.mem_cons_self)) (by have h := hF _ List.mem_cons_self; have h : 0 ≤ 0 + ((-1) * ρ 0 + (1 * ρ 2 + 0)) := h; omega) (by have h := hF _ (List.mem_cons_of_mem _ List.mem_cons_self); have h : 0 ≤ 0 + (1 * ρ 0 + ((-1) * ρ 2 + 0)) := h; omega) (by have h := hF _ (List.mem_cons_of_mem _ (List.mem_cons_of_mem _ List.mem_cons_self)); have h : 0 ≤ 0 + ((-1) * ρ 1 + (1 * ρ 3 + 0)) := h; omega) (by have h := hF _ (List.mem_cons_of_mem _ (List.mem_cons_of_mem _ (List.mem_cons_of_mem _ List.mem_cons_self))); have h : 0 ≤ 0 + (1 * ρ 1 + ((-1) * ρ 3 + 0)) := h; omega) hG
  obtain ⟨k0, -⟩ := H
  exact ⟨_, List.mem_cons_self, ρ, fun _ _ => rfl, (okM_c (pvp 190 (by show 0 + (1 * ρ 2 + 0) = _; omega) (by show 0 + (1 * ρ 3 + 0) = _; omega) k0) okM_n), okB_n, okF_n⟩
-- ntncw_1
theorem cr_784 (M : pM) (s0 s1 s2 : Int) (b0 : 0 ≤ s0 ∧ s0 ≤ 5) (b1 : 0 ≤ s1 ∧ s1 ≤ 5) (b2 : (-2147483648) ≤ s2 ∧ s2 ≤ 2147483647) (m0 : HP 190 (8 * s0 + s1 + 1) (s1 + 1) M) (m1 : (0 ≤ (s1) ∧ M 15 (s1).toNat = (s2))) (f0 : 0 ≤ ((-1) * s2 - 1)) (hG : gI M) : (HP 190 (8 * s0 + s1) (s1) M ∧ True) := by
  obtain ⟨a, i, h1, h2, h3, h4, h5⟩ := Eq.mp hp_190 m0
  have ea : a = s0.toNat := by omega
  have ei : i = s1.toNat + 1 := by omega
  subst ea
  subst ei
  refine ⟨Eq.mpr hp_190 ⟨s0.toNat, s1.toNat, h1, by omega, by omega, by omega, fun k k1 k2 => ?_⟩, trivial⟩
  by_cases e : k = s1.toNat
  · have hv := m1.2
    rw [show (s1).toNat = 0 + k by omega] at hv
    rw [hv]; omega
  · exact h5 k (by omega) k2
theorem rul_784 : Rul r_784 := by
  refine ⟨fun _ ρ M hm hB hF hG => ?_, fun gi gv hg => (by cases hg)⟩
  have H := cr_784 M (ρ 0) (ρ 1) (ρ 2) (hB _ List.mem_cons_self) (hB _ (List.mem_cons_of_mem _ List.mem_cons_self)) (hB _ (List.mem_cons_of_mem _ (List.mem_cons_of_mem _ List.mem_cons_self))) (cvp 190 (x' := (8 * (ρ 0) + (ρ 1) + 1)) (y' := ((ρ 1) + 1)) (by show 1 + (8 * ρ 0 + (1 * ρ 1 + 0)) = _; omega) (by show 1 + (1 * ρ 1 + 0) = _; omega) (hm _ List.mem_cons_self)) (cvm (c := 15) (by decide) (x' := ((ρ 1))) (y' := ((ρ 2))) (by show 0 + (1 * ρ 1 + 0) = _; omega) (by show 0 + (1 * ρ 2 + 0) = _; omega) (hm _ (List.mem_cons_of_mem _ List.mem_cons_self))) (by have h := hF _ List.mem_cons_self; have h : 0 ≤ (-1) + ((-1) * ρ 2 + 0) := h; omega) hG
  obtain ⟨k0, -⟩ := H
  exact ⟨_, List.mem_cons_self, ρ, fun _ _ => rfl, (okM_c (pvp 190 (by show 0 + (8 * ρ 0 + (1 * ρ 1 + 0)) = _; omega) (by show 0 + (1 * ρ 1 + 0) = _; omega) k0) okM_n), okB_n, okF_n⟩
-- nt0rw_0
theorem cr_785 (M : pM) (s0 : Int) (b0 : 0 ≤ s0 ∧ s0 ≤ 5) (hG : gI M) : (HP 191 (9 * s0 + 1) (s0 + 1) M ∧ True) := by
  exact ⟨Eq.mpr hp_191 ⟨s0.toNat, s0.toNat + 1, by omega, Nat.le_refl _, by omega, by omega, fun k k1 k2 => by omega⟩, trivial⟩
theorem rul_785 : Rul r_785 := by
  refine ⟨fun _ ρ M hm hB hF hG => ?_, fun gi gv hg => (by cases hg)⟩
  have H := cr_785 M (ρ 0) (hB _ List.mem_cons_self) hG
  obtain ⟨k0, -⟩ := H
  exact ⟨_, List.mem_cons_self, ρ, fun _ _ => rfl, (okM_c (pvp 191 (by show 1 + (9 * ρ 0 + 0) = _; omega) (by show 1 + (1 * ρ 0 + 0) = _; omega) k0) okM_n), okB_n, okF_n⟩
-- ntxrw_0
theorem cr_786 (M : pM) (s0 s1 s2 s3 : Int) (b0 : 0 ≤ s0 ∧ s0 ≤ 64) (b1 : 0 ≤ s1 ∧ s1 ≤ 6) (b2 : 0 ≤ s2 ∧ s2 ≤ 64) (b3 : 0 ≤ s3 ∧ s3 ≤ 6) (m0 : HP 191 (s0) (s1) M) (f0 : 0 ≤ ((-1) * s0 + s2)) (f1 : 0 ≤ (s0 + (-1) * s2)) (f2 : 0 ≤ ((-1) * s1 + s3)) (f3 : 0 ≤ (s1 + (-1) * s3)) (hG : gI M) : (HP 191 (s2) (s3) M ∧ True) := by
  have e : s0 = s2 := by omega
  have e2 : s1 = s3 := by omega
  subst e
  subst e2
  exact ⟨m0, trivial⟩
theorem rul_786 : Rul r_786 := by
  refine ⟨fun _ ρ M hm hB hF hG => ?_, fun gi gv hg => (by cases hg)⟩
  have H := cr_786 M (ρ 0) (ρ 1) (ρ 2) (ρ 3) (hB _ List.mem_cons_self) (hB _ (List.mem_cons_of_mem _ List.mem_cons_self)) (hB _ (List.mem_cons_of_mem _ (List.mem_cons_of_mem _ List.mem_cons_self))) (hB _ (List.mem_cons_of_mem _ (List.mem_cons_of_mem _ (List.mem_cons_of_mem _ List.mem_cons_self)))) (cvp 191 (x' := ((ρ 0))) (y' := ((ρ 1))) (by show 0 + (1 * ρ 0 + 0) = _; omega) (by show 0 + (1 * ρ 1 + 0) = _; omega) (hm _ List.mem_cons_self)) (by have h := hF _ List.mem_cons_self; have h : 0 ≤ 0 + ((-1) * ρ 0 + (1 * ρ 2 + 0)) := h; omega) (by have h := hF _ (List.mem_cons_of_mem _ List.mem_cons_self); have h : 0 ≤ 0 + (1 * ρ 0 + ((-1) * ρ 2 + 0)) := h; omega) (by have h := hF _ (List.mem_cons_of_mem _ (List.mem_cons_of_mem _ List.mem_cons_self)); have h : 0 ≤ 0 + ((-1) * ρ 1 + (1 * ρ 3 + 0)) := h; omega) (by have h := hF _ (List.mem_cons_of_mem _ (List.mem_cons_of_mem _ (List.mem_cons_of_mem _ List.mem_cons_self))); have h : 0 ≤ 0 + (1 * ρ 1 + ((-1) * ρ 3 + 0)) := h; omega) hG
  obtain ⟨k0, -⟩ := H
  exact ⟨_, List.mem_cons_self, ρ, fun _ _ => rfl, (okM_c (pvp 191 (by show 0 + (1 * ρ 2 + 0) = _; omega) (by show 0 + (1 * ρ 3 + 0) = _; omega) k0) okM_n), okB_n, okF_n⟩
-- ntnrw_0
theorem cr_787 (M : pM) (s0 s1 s2 : Int) (b0 : 0 ≤ s0 ∧ s0 ≤ 5) (b1 : 0 ≤ s1 ∧ s1 ≤ 5) (b2 : (-2147483648) ≤ s2 ∧ s2 ≤ 2147483647) (m0 : HP 191 (8 * s0 + s1 + 1) (s1 + 1) M) (m1 : (0 ≤ (s1) ∧ M 71 (s1).toNat = (s2))) (f0 : 0 ≤ ((-1) * s2 - 1)) (hG : gI M) : (HP 191 (8 * s0 + s1) (s1) M ∧ True) := by
  obtain ⟨a, i, h1, h2, h3, h4, h5⟩ := Eq.mp hp_191 m0
  have ea : a = s0.toNat := by omega
  have ei : i = s1.toNat + 1 := by omega
  subst ea
  subst ei
  refine ⟨Eq.mpr hp_191 ⟨s0.toNat, s1.toNat, h1, by omega, by omega, by omega, fun k k1 k2 => ?_⟩, trivial⟩
  by_cases e : k = s1.toNat
  · have hv := m1.2
    rw [show (s1).toNat = 0 + k by omega] at hv
    rw [hv]; omega
  · exact h5 k (by omega) k2
theorem rul_787 : Rul r_787 := by
  refine ⟨fun _ ρ M hm hB hF hG => ?_, fun gi gv hg => (by cases hg)⟩
  have H := cr_787 M (ρ 0) (ρ 1) (ρ 2) (hB _ List.mem_cons_self) (hB _ (List.mem_cons_of_mem _ List.mem_cons_self)) (hB _ (List.mem_cons_of_mem _ (List.mem_cons_of_mem _ List.mem_cons_self))) (cvp 191 (x' := (8 * (ρ 0) + (ρ 1) + 1)) (y' := ((ρ 1) + 1)) (by show 1 + (8 * ρ 0 + (1 * ρ 1 + 0)) = _; omega) (by show 1 + (1 * ρ 1 + 0) = _; omega) (hm _ List.mem_cons_self)) (cvm (c := 71) (by decide) (x' := ((ρ 1))) (y' := ((ρ 2))) (by show 0 + (1 * ρ 1 + 0) = _; omega) (by show 0 + (1 * ρ 2 + 0) = _; omega) (hm _ (List.mem_cons_of_mem _ List.mem_cons_self))) (by have h := hF _ List.mem_cons_self; have h : 0 ≤ (-1) + ((-1) * ρ 2 + 0) := h; omega) hG
  obtain ⟨k0, -⟩ := H
  exact ⟨_, List.mem_cons_self, ρ, fun _ _ => rfl, (okM_c (pvp 191 (by show 0 + (8 * ρ 0 + (1 * ρ 1 + 0)) = _; omega) (by show 0 + (1 * ρ 1 + 0) = _; omega) k0) okM_n), okB_n, okF_n⟩
-- nt0rw_1
theorem cr_788 (M : pM) (s0 : Int) (b0 : 0 ≤ s0 ∧ s0 ≤ 5) (hG : gI M) : (HP 192 (9 * s0 + 1) (s0 + 1) M ∧ True) := by
  exact ⟨Eq.mpr hp_192 ⟨s0.toNat, s0.toNat + 1, by omega, Nat.le_refl _, by omega, by omega, fun k k1 k2 => by omega⟩, trivial⟩
theorem rul_788 : Rul r_788 := by
  refine ⟨fun _ ρ M hm hB hF hG => ?_, fun gi gv hg => (by cases hg)⟩
  have H := cr_788 M (ρ 0) (hB _ List.mem_cons_self) hG
  obtain ⟨k0, -⟩ := H
  exact ⟨_, List.mem_cons_self, ρ, fun _ _ => rfl, (okM_c (pvp 192 (by show 1 + (9 * ρ 0 + 0) = _; omega) (by show 1 + (1 * ρ 0 + 0) = _; omega) k0) okM_n), okB_n, okF_n⟩
-- ntxrw_1
theorem cr_789 (M : pM) (s0 s1 s2 s3 : Int) (b0 : 0 ≤ s0 ∧ s0 ≤ 64) (b1 : 0 ≤ s1 ∧ s1 ≤ 6) (b2 : 0 ≤ s2 ∧ s2 ≤ 64) (b3 : 0 ≤ s3 ∧ s3 ≤ 6) (m0 : HP 192 (s0) (s1) M) (f0 : 0 ≤ ((-1) * s0 + s2)) (f1 : 0 ≤ (s0 + (-1) * s2)) (f2 : 0 ≤ ((-1) * s1 + s3)) (f3 : 0 ≤ (s1 + (-1) * s3)) (hG : gI M) : (HP 192 (s2) (s3) M ∧ True) := by
  have e : s0 = s2 := by omega
  have e2 : s1 = s3 := by omega
  subst e
  subst e2
  exact ⟨m0, trivial⟩
theorem rul_789 : Rul r_789 := by
  refine ⟨fun _ ρ M hm hB hF hG => ?_, fun gi gv hg => (by cases hg)⟩
  have H := cr_789 M (ρ 0) (ρ 1) (ρ 2) (ρ 3) (hB _ List.mem_cons_self) (hB _ (List.mem_cons_of_mem _ List.mem_cons_self)) (hB _ (List.mem_cons_of_mem _ (List.mem_cons_of_mem _ List.mem_cons_self))) (hB _ (List.mem_cons_of_mem _ (List.mem_cons_of_mem _ (List.mem_cons_of_mem _ List.mem_cons_self)))) (cvp 192 (x' := ((ρ 0))) (y' := ((ρ 1))) (by show 0 + (1 * ρ 0 + 0) = _; omega) (by show 0 + (1 * ρ 1 + 0) = _; omega) (hm _ List.mem_cons_self)) (by have h := hF _ List.mem_cons_self; have h : 0 ≤ 0 + ((-1) * ρ 0 + (1 * ρ 2 + 0)) := h; omega) (by have h := hF _ (List.mem_cons_of_mem _ List.mem_cons_self); have h : 0 ≤ 0 + (1 * ρ 0 + ((-1) * ρ 2 + 0)) := h; omega) (by have h := hF _ (List.mem_cons_of_mem _ (List.mem_cons_of_mem _ List.mem_cons_self)); have h : 0 ≤ 0 + ((-1) * ρ 1 + (1 * ρ 3 + 0)) := h; omega) (by have h := hF _ (List.mem_cons_of_mem _ (List.mem_cons_of_mem _ (List.mem_cons_of_mem _ List.mem_cons_self))); have h : 0 ≤ 0 + (1 * ρ 1 + ((-1) * ρ 3 + 0)) := h; omega) hG
  obtain ⟨k0, -⟩ := H
  exact ⟨_, List.mem_cons_self, ρ, fun _ _ => rfl, (okM_c (pvp 192 (by show 0 + (1 * ρ 2 + 0) = _; omega) (by show 0 + (1 * ρ 3 + 0) = _; omega) k0) okM_n), okB_n, okF_n⟩
-- ntnrw_1
theorem cr_790 (M : pM) (s0 s1 s2 : Int) (b0 : 0 ≤ s0 ∧ s0 ≤ 5) (b1 : 0 ≤ s1 ∧ s1 ≤ 5) (b2 : (-2147483648) ≤ s2 ∧ s2 ≤ 2147483647) (m0 : HP 192 (8 * s0 + s1 + 1) (s1 + 1) M) (m1 : (0 ≤ (s1 + 6) ∧ M 71 (s1 + 6).toNat = (s2))) (f0 : 0 ≤ ((-1) * s2 - 1)) (hG : gI M) : (HP 192 (8 * s0 + s1) (s1) M ∧ True) := by
  obtain ⟨a, i, h1, h2, h3, h4, h5⟩ := Eq.mp hp_192 m0
  have ea : a = s0.toNat := by omega
  have ei : i = s1.toNat + 1 := by omega
  subst ea
  subst ei
  refine ⟨Eq.mpr hp_192 ⟨s0.toNat, s1.toNat, h1, by omega, by omega, by omega, fun k k1 k2 => ?_⟩, trivial⟩
  by_cases e : k = s1.toNat
  · have hv := m1.2
    rw [show (s1 + 6).toNat = 6 + k by omega] at hv
    rw [hv]; omega
  · exact h5 k (by omega) k2
theorem rul_790 : Rul r_790 := by
  refine ⟨fun _ ρ M hm hB hF hG => ?_, fun gi gv hg => (by cases hg)⟩
  have H := cr_790 M (ρ 0) (ρ 1) (ρ 2) (hB _ List.mem_cons_self) (hB _ (List.mem_cons_of_mem _ List.mem_cons_self)) (hB _ (List.mem_cons_of_mem _ (List.mem_cons_of_mem _ List.mem_cons_self))) (cvp 192 (x' := (8 * (ρ 0) + (ρ 1) + 1)) (y' := ((ρ 1) + 1)) (by show 1 + (8 * ρ 0 + (1 * ρ 1 + 0)) = _; omega) (by show 1 + (1 * ρ 1 + 0) = _; omega) (hm _ List.mem_cons_self)) (cvm (c := 71) (by decide) (x' := ((ρ 1) + 6)) (y' := ((ρ 2))) (by show 6 + (1 * ρ 1 + 0) = _; omega) (by show 0 + (1 * ρ 2 + 0) = _; omega) (hm _ (List.mem_cons_of_mem _ List.mem_cons_self))) (by have h := hF _ List.mem_cons_self; have h : 0 ≤ (-1) + ((-1) * ρ 2 + 0) := h; omega) hG
  obtain ⟨k0, -⟩ := H
  exact ⟨_, List.mem_cons_self, ρ, fun _ _ => rfl, (okM_c (pvp 192 (by show 0 + (8 * ρ 0 + (1 * ρ 1 + 0)) = _; omega) (by show 0 + (1 * ρ 1 + 0) = _; omega) k0) okM_n), okB_n, okF_n⟩
-- nxt_0
theorem cr_791 (M : pM) (s0 s1 s2 s3 s4 : Int) (b0 : 0 ≤ s0 ∧ s0 ≤ 5) (b1 : 0 ≤ s1 ∧ s1 ≤ 5) (b2 : 0 ≤ s2 ∧ s2 ≤ 100) (b3 : 0 ≤ s3 ∧ s3 ≤ 5) (b4 : 0 ≤ s4 ∧ s4 ≤ 100) (m0 : HP 183 (0 : Int) (0 : Int) M) (m1 : HP 185 (8 * s0 + s1 + 1) (s1 + 1) M) (m2 : (0 ≤ (s1) ∧ M 7 (s1).toNat = (s2))) (m3 : HP 187 (8 * s0 + s3 + 1) (s3 + 1) M) (m4 : (0 ≤ (s3) ∧ M 73 (s3).toNat = (s4))) (f0 : 0 ≤ (s0 + (-1) * s1)) (f1 : 0 ≤ (s0 + (-1) * s3)) (hG : gI M) : (0 ≤ ((-1) * s1 + s3) ∧ 0 ≤ (s1 + (-1) * s3) ∧ True) := by
  have hE := Eq.mp hp_183 m0
  have hq : ∀ i : Nat, i < 6 → (M 7 (0 + i) < 0 ↔ M 73 (0 + i) < 0) := by
    intro i hi
    have z : M 7 (0 + i) = M 7 i := by rw [Nat.zero_add]
    have z2 : M 73 (6 * 0 + i) = M 73 (0 + i) := by rw [show 6 * 0 + i = 0 + i by omega]
    rw [z, ← z2]
    have e : M 7 i = M 73 (6 * 0 + i) := eq_t (b := 0) hE hi
    rw [e]
  obtain ⟨pa, pi, p1, p2, p3, p4, p5⟩ := Eq.mp hp_185 m1
  have hu := m2.2
  rw [show (s1).toNat = 0 + s1.toNat by omega] at hu
  obtain ⟨qa, qi, q1, q2, q3, q4, q5⟩ := Eq.mp hp_187 m3
  have hv := m4.2
  rw [show (s3).toNat = 0 + s3.toNat by omega] at hv
  have hij : s1 = s3 := by
    by_cases h1 : s1 < s3
    · have := p5 s3.toNat (by omega) (by omega)
      rw [hq s3.toNat (by omega), hv] at this
      omega
    · by_cases h2 : s3 < s1
      · have := q5 s1.toNat (by omega) (by omega)
        rw [← hq s1.toNat (by omega), hu] at this
        omega
      · omega
  exact ⟨by omega, by omega, trivial⟩
theorem rul_791 : Rul r_791 := by
  refine ⟨fun _ ρ M hm hB hF hG => ?_, fun gi gv hg => (by cases hg)⟩
  have H := cr_791 M (ρ 0) (ρ 1) (ρ 2) (ρ 3) (ρ 4) (hB _ List.mem_cons_self) (hB _ (List.mem_cons_of_mem _ List.mem_cons_self)) (hB _ (List.mem_cons_of_mem _ (List.mem_cons_of_mem _ List.mem_cons_self))) (hB _ (List.mem_cons_of_mem _ (List.mem_cons_of_mem _ (List.mem_cons_of_mem _ List.mem_cons_self)))) (hB _ (List.mem_cons_of_mem _ (List.mem_cons_of_mem _ (List.mem_cons_of_mem _ (List.mem_cons_of_mem _ List.mem_cons_self))))) (cvp 183 (x' := (0 : Int)) (y' := (0 : Int)) (by show 0 + 0 = _; omega) (by show 0 + 0 = _; omega) (hm _ List.mem_cons_self)) (cvp 185 (x' := (8 * (ρ 0) + (ρ 1) + 1)) (y' := ((ρ 1) + 1)) (by show 1 + (8 * ρ 0 + (1 * ρ 1 + 0)) = _; omega) (by show 1 + (1 * ρ 1 + 0) = _; omega) (hm _ (List.mem_cons_of_mem _ List.mem_cons_self))) (cvm (c := 7) (by decide) (x' := ((ρ 1))) (y' := ((ρ 2))) (by show 0 + (1 * ρ 1 + 0) = _; omega) (by show 0 + (1 * ρ 2 + 0) = _; omega) (hm _ (List.mem_cons_of_mem _ (List.mem_cons_of_mem _ List.mem_cons_self)))) (cvp 187 (x' := (8 * (ρ 0) + (ρ 3) + 1)) (y' := ((ρ 3) + 1)) (by show 1 + (8 * ρ 0 + (1 * ρ 3 + 0)) = _; omega) (by show 1 + (1 * ρ 3 + 0) = _; omega) (hm _ (List.mem_cons_of_mem _ (List.mem_cons_of_mem _ (List.mem_cons_of_mem _ List.mem_cons_self))))) (cvm (c := 73) (by decide) (x' := ((ρ 3))) (y' := ((ρ 4))) (by show 0 + (1 * ρ 3 + 0) = _; omega) (by show 0 + (1 * ρ 4 + 0) = _; omega) (hm _ (List.mem_cons_of_mem _ (List.mem_cons_of_mem _ (List.mem_cons_of_mem _ (List.mem_cons_of_mem _ List.mem_cons_self)))))) (by have h := hF _ List.mem_cons_self; have h : 0 ≤ 0 + (1 * ρ 0 + ((-1) * ρ 1 + 0)) := h; omega) (by have h := hF _ (List.mem_cons_of_mem _ List.mem_cons_self); have h : 0 ≤ 0 + (1 * ρ 0 + ((-1) * ρ 3 + 0)) := h; omega) hG
  obtain ⟨f0, f1, -⟩ := H
  exact ⟨_, List.mem_cons_self, ρ, fun _ _ => rfl, okM_n, okB_n, (okF_c (by show 0 ≤ 0 + ((-1) * ρ 1 + (1 * ρ 3 + 0)); omega) (okF_c (by show 0 ≤ 0 + (1 * ρ 1 + ((-1) * ρ 3 + 0)); omega) okF_n))⟩
-- nyt_0
theorem cr_792 (M : pM) (s0 s1 s2 : Int) (b0 : 0 ≤ s0 ∧ s0 ≤ 5) (b1 : 0 ≤ s1 ∧ s1 ≤ 5) (b2 : 0 ≤ s2 ∧ s2 ≤ 100) (m0 : HP 183 (0 : Int) (0 : Int) M) (m1 : HP 185 (8 * s0) (0 : Int) M) (m2 : HP 187 (8 * s0 + s1 + 1) (s1 + 1) M) (m3 : (0 ≤ (s1) ∧ M 73 (s1).toNat = (s2))) (f0 : 0 ≤ (s0 + (-1) * s1)) (hG : gI M) : (0 ≤ ((-1) * s2 - 1) ∧ True) := by
  have hE := Eq.mp hp_183 m0
  have hq : ∀ i : Nat, i < 6 → (M 7 (0 + i) < 0 ↔ M 73 (0 + i) < 0) := by
    intro i hi
    have z : M 7 (0 + i) = M 7 i := by rw [Nat.zero_add]
    have z2 : M 73 (6 * 0 + i) = M 73 (0 + i) := by rw [show 6 * 0 + i = 0 + i by omega]
    rw [z, ← z2]
    have e : M 7 i = M 73 (6 * 0 + i) := eq_t (b := 0) hE hi
    rw [e]
  obtain ⟨pa, pi, p1, p2, p3, p4, p5⟩ := Eq.mp hp_185 m1
  have hv := m3.2
  rw [show (s1).toNat = 0 + s1.toNat by omega] at hv
  have := p5 s1.toNat (by omega) (by omega)
  rw [hq s1.toNat (by omega), hv] at this
  exact ⟨by omega, trivial⟩
theorem rul_792 : Rul r_792 := by
  refine ⟨fun _ ρ M hm hB hF hG => ?_, fun gi gv hg => (by cases hg)⟩
  have H := cr_792 M (ρ 0) (ρ 1) (ρ 2) (hB _ List.mem_cons_self) (hB _ (List.mem_cons_of_mem _ List.mem_cons_self)) (hB _ (List.mem_cons_of_mem _ (List.mem_cons_of_mem _ List.mem_cons_self))) (cvp 183 (x' := (0 : Int)) (y' := (0 : Int)) (by show 0 + 0 = _; omega) (by show 0 + 0 = _; omega) (hm _ List.mem_cons_self)) (cvp 185 (x' := (8 * (ρ 0))) (y' := (0 : Int)) (by show 0 + (8 * ρ 0 + 0) = _; omega) (by show 0 + 0 = _; omega) (hm _ (List.mem_cons_of_mem _ List.mem_cons_self))) (cvp 187 (x' := (8 * (ρ 0) + (ρ 1) + 1)) (y' := ((ρ 1) + 1)) (by show 1 + (8 * ρ 0 + (1 * ρ 1 + 0)) = _; omega) (by show 1 + (1 * ρ 1 + 0) = _; omega) (hm _ (List.mem_cons_of_mem _ (List.mem_cons_of_mem _ List.mem_cons_self)))) (cvm (c := 73) (by decide) (x' := ((ρ 1))) (y' := ((ρ 2))) (by show 0 + (1 * ρ 1 + 0) = _; omega) (by show 0 + (1 * ρ 2 + 0) = _; omega) (hm _ (List.mem_cons_of_mem _ (List.mem_cons_of_mem _ (List.mem_cons_of_mem _ List.mem_cons_self))))) (by have h := hF _ List.mem_cons_self; have h : 0 ≤ 0 + (1 * ρ 0 + ((-1) * ρ 1 + 0)) := h; omega) hG
  obtain ⟨f0, -⟩ := H
  exact ⟨_, List.mem_cons_self, ρ, fun _ _ => rfl, okM_n, okB_n, (okF_c (by show 0 ≤ (-1) + ((-1) * ρ 2 + 0); omega) okF_n)⟩
-- nzt_0
theorem cr_793 (M : pM) (s0 s1 s2 : Int) (b0 : 0 ≤ s0 ∧ s0 ≤ 5) (b1 : 0 ≤ s1 ∧ s1 ≤ 5) (b2 : 0 ≤ s2 ∧ s2 ≤ 100) (m0 : HP 183 (0 : Int) (0 : Int) M) (m1 : HP 187 (8 * s0) (0 : Int) M) (m2 : HP 185 (8 * s0 + s1 + 1) (s1 + 1) M) (m3 : (0 ≤ (s1) ∧ M 7 (s1).toNat = (s2))) (f0 : 0 ≤ (s0 + (-1) * s1)) (hG : gI M) : (0 ≤ ((-1) * s2 - 1) ∧ True) := by
  have hE := Eq.mp hp_183 m0
  have hq : ∀ i : Nat, i < 6 → (M 7 (0 + i) < 0 ↔ M 73 (0 + i) < 0) := by
    intro i hi
    have z : M 7 (0 + i) = M 7 i := by rw [Nat.zero_add]
    have z2 : M 73 (6 * 0 + i) = M 73 (0 + i) := by rw [show 6 * 0 + i = 0 + i by omega]
    rw [z, ← z2]
    have e : M 7 i = M 73 (6 * 0 + i) := eq_t (b := 0) hE hi
    rw [e]
  obtain ⟨pa, pi, p1, p2, p3, p4, p5⟩ := Eq.mp hp_187 m1
  have hu := m3.2
  rw [show (s1).toNat = 0 + s1.toNat by omega] at hu
  have := p5 s1.toNat (by omega) (by omega)
  rw [← hq s1.toNat (by omega), hu] at this
  exact ⟨by omega, trivial⟩
theorem rul_793 : Rul r_793 := by
  refine ⟨fun _ ρ M hm hB hF hG => ?_, fun gi gv hg => (by cases hg)⟩
  have H := cr_793 M (ρ 0) (ρ 1) (ρ 2) (hB _ List.mem_cons_self) (hB _ (List.mem_cons_of_mem _ List.mem_cons_self)) (hB _ (List.mem_cons_of_mem _ (List.mem_cons_of_mem _ List.mem_cons_self))) (cvp 183 (x' := (0 : Int)) (y' := (0 : Int)) (by show 0 + 0 = _; omega) (by show 0 + 0 = _; omega) (hm _ List.mem_cons_self)) (cvp 187 (x' := (8 * (ρ 0))) (y' := (0 : Int)) (by show 0 + (8 * ρ 0 + 0) = _; omega) (by show 0 + 0 = _; omega) (hm _ (List.mem_cons_of_mem _ List.mem_cons_self))) (cvp 185 (x' := (8 * (ρ 0) + (ρ 1) + 1)) (y' := ((ρ 1) + 1)) (by show 1 + (8 * ρ 0 + (1 * ρ 1 + 0)) = _; omega) (by show 1 + (1 * ρ 1 + 0) = _; omega) (hm _ (List.mem_cons_of_mem _ (List.mem_cons_of_mem _ List.mem_cons_self)))) (cvm (c := 7) (by decide) (x' := ((ρ 1))) (y' := ((ρ 2))) (by show 0 + (1 * ρ 1 + 0) = _; omega) (by show 0 + (1 * ρ 2 + 0) = _; omega) (hm _ (List.mem_cons_of_mem _ (List.mem_cons_of_mem _ (List.mem_cons_of_mem _ List.mem_cons_self))))) (by have h := hF _ List.mem_cons_self; have h : 0 ≤ 0 + (1 * ρ 0 + ((-1) * ρ 1 + 0)) := h; omega) hG
  obtain ⟨f0, -⟩ := H
  exact ⟨_, List.mem_cons_self, ρ, fun _ _ => rfl, okM_n, okB_n, (okF_c (by show 0 ≤ (-1) + ((-1) * ρ 2 + 0); omega) okF_n)⟩
-- nxw_0
theorem cr_794 (M : pM) (s0 s1 s2 s3 s4 : Int) (b0 : 0 ≤ s0 ∧ s0 ≤ 5) (b1 : 0 ≤ s1 ∧ s1 ≤ 5) (b2 : 0 ≤ s2 ∧ s2 ≤ 100) (b3 : 0 ≤ s3 ∧ s3 ≤ 5) (b4 : 0 ≤ s4 ∧ s4 ≤ 100) (m0 : HP 183 (0 : Int) (0 : Int) M) (m1 : HP 189 (8 * s0 + s1 + 1) (s1 + 1) M) (m2 : (0 ≤ (s1) ∧ M 6 (s1).toNat = (s2))) (m3 : HP 191 (8 * s0 + s3 + 1) (s3 + 1) M) (m4 : (0 ≤ (s3) ∧ M 71 (s3).toNat = (s4))) (f0 : 0 ≤ (s0 + (-1) * s1)) (f1 : 0 ≤ (s0 + (-1) * s3)) (hG : gI M) : (0 ≤ ((-1) * s1 + s3) ∧ 0 ≤ (s1 + (-1) * s3) ∧ True) := by
  have hE := Eq.mp hp_183 m0
  have hq : ∀ i : Nat, i < 6 → (M 6 (0 + i) < 0 ↔ M 71 (0 + i) < 0) := by
    intro i hi
    have z : M 6 (0 + i) = M 6 i := by rw [Nat.zero_add]
    have z2 : M 71 (6 * 0 + i) = M 71 (0 + i) := by rw [show 6 * 0 + i = 0 + i by omega]
    rw [z, ← z2]
    exact eq_w (b := 0) hE hi
  obtain ⟨pa, pi, p1, p2, p3, p4, p5⟩ := Eq.mp hp_189 m1
  have hu := m2.2
  rw [show (s1).toNat = 0 + s1.toNat by omega] at hu
  obtain ⟨qa, qi, q1, q2, q3, q4, q5⟩ := Eq.mp hp_191 m3
  have hv := m4.2
  rw [show (s3).toNat = 0 + s3.toNat by omega] at hv
  have hij : s1 = s3 := by
    by_cases h1 : s1 < s3
    · have := p5 s3.toNat (by omega) (by omega)
      rw [hq s3.toNat (by omega), hv] at this
      omega
    · by_cases h2 : s3 < s1
      · have := q5 s1.toNat (by omega) (by omega)
        rw [← hq s1.toNat (by omega), hu] at this
        omega
      · omega
  exact ⟨by omega, by omega, trivial⟩
theorem rul_794 : Rul r_794 := by
  refine ⟨fun _ ρ M hm hB hF hG => ?_, fun gi gv hg => (by cases hg)⟩
  have H := cr_794 M (ρ 0) (ρ 1) (ρ 2) (ρ 3) (ρ 4) (hB _ List.mem_cons_self) (hB _ (List.mem_cons_of_mem _ List.mem_cons_self)) (hB _ (List.mem_cons_of_mem _ (List.mem_cons_of_mem _ List.mem_cons_self))) (hB _ (List.mem_cons_of_mem _ (List.mem_cons_of_mem _ (List.mem_cons_of_mem _ List.mem_cons_self)))) (hB _ (List.mem_cons_of_mem _ (List.mem_cons_of_mem _ (List.mem_cons_of_mem _ (List.mem_cons_of_mem _ List.mem_cons_self))))) (cvp 183 (x' := (0 : Int)) (y' := (0 : Int)) (by show 0 + 0 = _; omega) (by show 0 + 0 = _; omega) (hm _ List.mem_cons_self)) (cvp 189 (x' := (8 * (ρ 0) + (ρ 1) + 1)) (y' := ((ρ 1) + 1)) (by show 1 + (8 * ρ 0 + (1 * ρ 1 + 0)) = _; omega) (by show 1 + (1 * ρ 1 + 0) = _; omega) (hm _ (List.mem_cons_of_mem _ List.mem_cons_self))) (cvm (c := 6) (by decide) (x' := ((ρ 1))) (y' := ((ρ 2))) (by show 0 + (1 * ρ 1 + 0) = _; omega) (by show 0 + (1 * ρ 2 + 0) = _; omega) (hm _ (List.mem_cons_of_mem _ (List.mem_cons_of_mem _ List.mem_cons_self)))) (cvp 191 (x' := (8 * (ρ 0) + (ρ 3) + 1)) (y' := ((ρ 3) + 1)) (by show 1 + (8 * ρ 0 + (1 * ρ 3 + 0)) = _; omega) (by show 1 + (1 * ρ 3 + 0) = _; omega) (hm _ (List.mem_cons_of_mem _ (List.mem_cons_of_mem _ (List.mem_cons_of_mem _ List.mem_cons_self))))) (cvm (c := 71) (by decide) (x' := ((ρ 3))) (y' := ((ρ 4))) (by show 0 + (1 * ρ 3 + 0) = _; omega) (by show 0 + (1 * ρ 4 + 0) = _; omega) (hm _ (List.mem_cons_of_mem _ (List.mem_cons_of_mem _ (List.mem_cons_of_mem _ (List.mem_cons_of_mem _ List.mem_cons_self)))))) (by have h := hF _ List.mem_cons_self; have h : 0 ≤ 0 + (1 * ρ 0 + ((-1) * ρ 1 + 0)) := h; omega) (by have h := hF _ (List.mem_cons_of_mem _ List.mem_cons_self); have h : 0 ≤ 0 + (1 * ρ 0 + ((-1) * ρ 3 + 0)) := h; omega) hG
  obtain ⟨f0, f1, -⟩ := H
  exact ⟨_, List.mem_cons_self, ρ, fun _ _ => rfl, okM_n, okB_n, (okF_c (by show 0 ≤ 0 + ((-1) * ρ 1 + (1 * ρ 3 + 0)); omega) (okF_c (by show 0 ≤ 0 + (1 * ρ 1 + ((-1) * ρ 3 + 0)); omega) okF_n))⟩
-- nyw_0
theorem cr_795 (M : pM) (s0 s1 s2 : Int) (b0 : 0 ≤ s0 ∧ s0 ≤ 5) (b1 : 0 ≤ s1 ∧ s1 ≤ 5) (b2 : 0 ≤ s2 ∧ s2 ≤ 100) (m0 : HP 183 (0 : Int) (0 : Int) M) (m1 : HP 189 (8 * s0) (0 : Int) M) (m2 : HP 191 (8 * s0 + s1 + 1) (s1 + 1) M) (m3 : (0 ≤ (s1) ∧ M 71 (s1).toNat = (s2))) (f0 : 0 ≤ (s0 + (-1) * s1)) (hG : gI M) : (0 ≤ ((-1) * s2 - 1) ∧ True) := by
  have hE := Eq.mp hp_183 m0
  have hq : ∀ i : Nat, i < 6 → (M 6 (0 + i) < 0 ↔ M 71 (0 + i) < 0) := by
    intro i hi
    have z : M 6 (0 + i) = M 6 i := by rw [Nat.zero_add]
    have z2 : M 71 (6 * 0 + i) = M 71 (0 + i) := by rw [show 6 * 0 + i = 0 + i by omega]
    rw [z, ← z2]
    exact eq_w (b := 0) hE hi
  obtain ⟨pa, pi, p1, p2, p3, p4, p5⟩ := Eq.mp hp_189 m1
  have hv := m3.2
  rw [show (s1).toNat = 0 + s1.toNat by omega] at hv
  have := p5 s1.toNat (by omega) (by omega)
  rw [hq s1.toNat (by omega), hv] at this
  exact ⟨by omega, trivial⟩
theorem rul_795 : Rul r_795 := by
  refine ⟨fun _ ρ M hm hB hF hG => ?_, fun gi gv hg => (by cases hg)⟩
  have H := cr_795 M (ρ 0) (ρ 1) (ρ 2) (hB _ List.mem_cons_self) (hB _ (List.mem_cons_of_mem _ List.mem_cons_self)) (hB _ (List.mem_cons_of_mem _ (List.mem_cons_of_mem _ List.mem_cons_self))) (cvp 183 (x' := (0 : Int)) (y' := (0 : Int)) (by show 0 + 0 = _; omega) (by show 0 + 0 = _; omega) (hm _ List.mem_cons_self)) (cvp 189 (x' := (8 * (ρ 0))) (y' := (0 : Int)) (by show 0 + (8 * ρ 0 + 0) = _; omega) (by show 0 + 0 = _; omega) (hm _ (List.mem_cons_of_mem _ List.mem_cons_self))) (cvp 191 (x' := (8 * (ρ 0) + (ρ 1) + 1)) (y' := ((ρ 1) + 1)) (by show 1 + (8 * ρ 0 + (1 * ρ 1 + 0)) = _; omega) (by show 1 + (1 * ρ 1 + 0) = _; omega) (hm _ (List.mem_cons_of_mem _ (List.mem_cons_of_mem _ List.mem_cons_self)))) (cvm (c := 71) (by decide) (x' := ((ρ 1))) (y' := ((ρ 2))) (by show 0 + (1 * ρ 1 + 0) = _; omega) (by show 0 + (1 * ρ 2 + 0) = _; omega) (hm _ (List.mem_cons_of_mem _ (List.mem_cons_of_mem _ (List.mem_cons_of_mem _ List.mem_cons_self))))) (by have h := hF _ List.mem_cons_self; have h : 0 ≤ 0 + (1 * ρ 0 + ((-1) * ρ 1 + 0)) := h; omega) hG
  obtain ⟨f0, -⟩ := H
  exact ⟨_, List.mem_cons_self, ρ, fun _ _ => rfl, okM_n, okB_n, (okF_c (by show 0 ≤ (-1) + ((-1) * ρ 2 + 0); omega) okF_n)⟩
-- nzw_0
theorem cr_796 (M : pM) (s0 s1 s2 : Int) (b0 : 0 ≤ s0 ∧ s0 ≤ 5) (b1 : 0 ≤ s1 ∧ s1 ≤ 5) (b2 : 0 ≤ s2 ∧ s2 ≤ 100) (m0 : HP 183 (0 : Int) (0 : Int) M) (m1 : HP 191 (8 * s0) (0 : Int) M) (m2 : HP 189 (8 * s0 + s1 + 1) (s1 + 1) M) (m3 : (0 ≤ (s1) ∧ M 6 (s1).toNat = (s2))) (f0 : 0 ≤ (s0 + (-1) * s1)) (hG : gI M) : (0 ≤ ((-1) * s2 - 1) ∧ True) := by
  have hE := Eq.mp hp_183 m0
  have hq : ∀ i : Nat, i < 6 → (M 6 (0 + i) < 0 ↔ M 71 (0 + i) < 0) := by
    intro i hi
    have z : M 6 (0 + i) = M 6 i := by rw [Nat.zero_add]
    have z2 : M 71 (6 * 0 + i) = M 71 (0 + i) := by rw [show 6 * 0 + i = 0 + i by omega]
    rw [z, ← z2]
    exact eq_w (b := 0) hE hi
  obtain ⟨pa, pi, p1, p2, p3, p4, p5⟩ := Eq.mp hp_191 m1
  have hu := m3.2
  rw [show (s1).toNat = 0 + s1.toNat by omega] at hu
  have := p5 s1.toNat (by omega) (by omega)
  rw [← hq s1.toNat (by omega), hu] at this
  exact ⟨by omega, trivial⟩
theorem rul_796 : Rul r_796 := by
  refine ⟨fun _ ρ M hm hB hF hG => ?_, fun gi gv hg => (by cases hg)⟩
  have H := cr_796 M (ρ 0) (ρ 1) (ρ 2) (hB _ List.mem_cons_self) (hB _ (List.mem_cons_of_mem _ List.mem_cons_self)) (hB _ (List.mem_cons_of_mem _ (List.mem_cons_of_mem _ List.mem_cons_self))) (cvp 183 (x' := (0 : Int)) (y' := (0 : Int)) (by show 0 + 0 = _; omega) (by show 0 + 0 = _; omega) (hm _ List.mem_cons_self)) (cvp 191 (x' := (8 * (ρ 0))) (y' := (0 : Int)) (by show 0 + (8 * ρ 0 + 0) = _; omega) (by show 0 + 0 = _; omega) (hm _ (List.mem_cons_of_mem _ List.mem_cons_self))) (cvp 189 (x' := (8 * (ρ 0) + (ρ 1) + 1)) (y' := ((ρ 1) + 1)) (by show 1 + (8 * ρ 0 + (1 * ρ 1 + 0)) = _; omega) (by show 1 + (1 * ρ 1 + 0) = _; omega) (hm _ (List.mem_cons_of_mem _ (List.mem_cons_of_mem _ List.mem_cons_self)))) (cvm (c := 6) (by decide) (x' := ((ρ 1))) (y' := ((ρ 2))) (by show 0 + (1 * ρ 1 + 0) = _; omega) (by show 0 + (1 * ρ 2 + 0) = _; omega) (hm _ (List.mem_cons_of_mem _ (List.mem_cons_of_mem _ (List.mem_cons_of_mem _ List.mem_cons_self))))) (by have h := hF _ List.mem_cons_self; have h : 0 ≤ 0 + (1 * ρ 0 + ((-1) * ρ 1 + 0)) := h; omega) hG
  obtain ⟨f0, -⟩ := H
  exact ⟨_, List.mem_cons_self, ρ, fun _ _ => rfl, okM_n, okB_n, (okF_c (by show 0 ≤ (-1) + ((-1) * ρ 2 + 0); omega) okF_n)⟩
-- nxt_1
theorem cr_797 (M : pM) (s0 s1 s2 s3 s4 : Int) (b0 : 0 ≤ s0 ∧ s0 ≤ 5) (b1 : 0 ≤ s1 ∧ s1 ≤ 5) (b2 : 0 ≤ s2 ∧ s2 ≤ 100) (b3 : 0 ≤ s3 ∧ s3 ≤ 5) (b4 : 0 ≤ s4 ∧ s4 ≤ 100) (m0 : HP 184 (0 : Int) (0 : Int) M) (m1 : HP 186 (8 * s0 + s1 + 1) (s1 + 1) M) (m2 : (0 ≤ (s1) ∧ M 16 (s1).toNat = (s2))) (m3 : HP 188 (8 * s0 + s3 + 1) (s3 + 1) M) (m4 : (0 ≤ (s3 + 6) ∧ M 73 (s3 + 6).toNat = (s4))) (f0 : 0 ≤ (s0 + (-1) * s1)) (f1 : 0 ≤ (s0 + (-1) * s3)) (hG : gI M) : (0 ≤ ((-1) * s1 + s3) ∧ 0 ≤ (s1 + (-1) * s3) ∧ True) := by
  have hE := Eq.mp hp_184 m0
  have hq : ∀ i : Nat, i < 6 → (M 16 (0 + i) < 0 ↔ M 73 (6 + i) < 0) := by
    intro i hi
    have z : M 16 (0 + i) = M 16 i := by rw [Nat.zero_add]
    have z2 : M 73 (6 * 1 + i) = M 73 (6 + i) := by rw [show 6 * 1 + i = 6 + i by omega]
    rw [z, ← z2]
    have e : M 16 i = M 73 (6 * 1 + i) := eq_t (b := 1) hE hi
    rw [e]
  obtain ⟨pa, pi, p1, p2, p3, p4, p5⟩ := Eq.mp hp_186 m1
  have hu := m2.2
  rw [show (s1).toNat = 0 + s1.toNat by omega] at hu
  obtain ⟨qa, qi, q1, q2, q3, q4, q5⟩ := Eq.mp hp_188 m3
  have hv := m4.2
  rw [show (s3 + 6).toNat = 6 + s3.toNat by omega] at hv
  have hij : s1 = s3 := by
    by_cases h1 : s1 < s3
    · have := p5 s3.toNat (by omega) (by omega)
      rw [hq s3.toNat (by omega), hv] at this
      omega
    · by_cases h2 : s3 < s1
      · have := q5 s1.toNat (by omega) (by omega)
        rw [← hq s1.toNat (by omega), hu] at this
        omega
      · omega
  exact ⟨by omega, by omega, trivial⟩
theorem rul_797 : Rul r_797 := by
  refine ⟨fun _ ρ M hm hB hF hG => ?_, fun gi gv hg => (by cases hg)⟩
  have H := cr_797 M (ρ 0) (ρ 1) (ρ 2) (ρ 3) (ρ 4) (hB _ List.mem_cons_self) (hB _ (List.mem_cons_of_mem _ List.mem_cons_self)) (hB _ (List.mem_cons_of_mem _ (List.mem_cons_of_mem _ List.mem_cons_self))) (hB _ (List.mem_cons_of_mem _ (List.mem_cons_of_mem _ (List.mem_cons_of_mem _ List.mem_cons_self)))) (hB _ (List.mem_cons_of_mem _ (List.mem_cons_of_mem _ (List.mem_cons_of_mem _ (List.mem_cons_of_mem _ List.mem_cons_self))))) (cvp 184 (x' := (0 : Int)) (y' := (0 : Int)) (by show 0 + 0 = _; omega) (by show 0 + 0 = _; omega) (hm _ List.mem_cons_self)) (cvp 186 (x' := (8 * (ρ 0) + (ρ 1) + 1)) (y' := ((ρ 1) + 1)) (by show 1 + (8 * ρ 0 + (1 * ρ 1 + 0)) = _; omega) (by show 1 + (1 * ρ 1 + 0) = _; omega) (hm _ (List.mem_cons_of_mem _ List.mem_cons_self))) (cvm (c := 16) (by decide) (x' := ((ρ 1))) (y' := ((ρ 2))) (by show 0 + (1 * ρ 1 + 0) = _; omega) (by show 0 + (1 * ρ 2 + 0) = _; omega) (hm _ (List.mem_cons_of_mem _ (List.mem_cons_of_mem _ List.mem_cons_self)))) (cvp 188 (x' := (8 * (ρ 0) + (ρ 3) + 1)) (y' := ((ρ 3) + 1)) (by show 1 + (8 * ρ 0 + (1 * ρ 3 + 0)) = _; omega) (by show 1 + (1 * ρ 3 + 0) = _; omega) (hm _ (List.mem_cons_of_mem _ (List.mem_cons_of_mem _ (List.mem_cons_of_mem _ List.mem_cons_self))))) (cvm (c := 73) (by decide) (x' := ((ρ 3) + 6)) (y' := ((ρ 4))) (by show 6 + (1 * ρ 3 + 0) = _; omega) (by show 0 + (1 * ρ 4 + 0) = _; omega) (hm _ (List.mem_cons_of_mem _ (List.mem_cons_of_mem _ (List.mem_cons_of_mem _ (List.mem_cons_of_mem _ List.mem_cons_self)))))) (by have h := hF _ List.mem_cons_self; have h : 0 ≤ 0 + (1 * ρ 0 + ((-1) * ρ 1 + 0)) := h; omega) (by have h := hF _ (List.mem_cons_of_mem _ List.mem_cons_self); have h : 0 ≤ 0 + (1 * ρ 0 + ((-1) * ρ 3 + 0)) := h; omega) hG
  obtain ⟨f0, f1, -⟩ := H
  exact ⟨_, List.mem_cons_self, ρ, fun _ _ => rfl, okM_n, okB_n, (okF_c (by show 0 ≤ 0 + ((-1) * ρ 1 + (1 * ρ 3 + 0)); omega) (okF_c (by show 0 ≤ 0 + (1 * ρ 1 + ((-1) * ρ 3 + 0)); omega) okF_n))⟩
-- nyt_1
theorem cr_798 (M : pM) (s0 s1 s2 : Int) (b0 : 0 ≤ s0 ∧ s0 ≤ 5) (b1 : 0 ≤ s1 ∧ s1 ≤ 5) (b2 : 0 ≤ s2 ∧ s2 ≤ 100) (m0 : HP 184 (0 : Int) (0 : Int) M) (m1 : HP 186 (8 * s0) (0 : Int) M) (m2 : HP 188 (8 * s0 + s1 + 1) (s1 + 1) M) (m3 : (0 ≤ (s1 + 6) ∧ M 73 (s1 + 6).toNat = (s2))) (f0 : 0 ≤ (s0 + (-1) * s1)) (hG : gI M) : (0 ≤ ((-1) * s2 - 1) ∧ True) := by
  have hE := Eq.mp hp_184 m0
  have hq : ∀ i : Nat, i < 6 → (M 16 (0 + i) < 0 ↔ M 73 (6 + i) < 0) := by
    intro i hi
    have z : M 16 (0 + i) = M 16 i := by rw [Nat.zero_add]
    have z2 : M 73 (6 * 1 + i) = M 73 (6 + i) := by rw [show 6 * 1 + i = 6 + i by omega]
    rw [z, ← z2]
    have e : M 16 i = M 73 (6 * 1 + i) := eq_t (b := 1) hE hi
    rw [e]
  obtain ⟨pa, pi, p1, p2, p3, p4, p5⟩ := Eq.mp hp_186 m1
  have hv := m3.2
  rw [show (s1 + 6).toNat = 6 + s1.toNat by omega] at hv
  have := p5 s1.toNat (by omega) (by omega)
  rw [hq s1.toNat (by omega), hv] at this
  exact ⟨by omega, trivial⟩
theorem rul_798 : Rul r_798 := by
  refine ⟨fun _ ρ M hm hB hF hG => ?_, fun gi gv hg => (by cases hg)⟩
  have H := cr_798 M (ρ 0) (ρ 1) (ρ 2) (hB _ List.mem_cons_self) (hB _ (List.mem_cons_of_mem _ List.mem_cons_self)) (hB _ (List.mem_cons_of_mem _ (List.mem_cons_of_mem _ List.mem_cons_self))) (cvp 184 (x' := (0 : Int)) (y' := (0 : Int)) (by show 0 + 0 = _; omega) (by show 0 + 0 = _; omega) (hm _ List.mem_cons_self)) (cvp 186 (x' := (8 * (ρ 0))) (y' := (0 : Int)) (by show 0 + (8 * ρ 0 + 0) = _; omega) (by show 0 + 0 = _; omega) (hm _ (List.mem_cons_of_mem _ List.mem_cons_self))) (cvp 188 (x' := (8 * (ρ 0) + (ρ 1) + 1)) (y' := ((ρ 1) + 1)) (by show 1 + (8 * ρ 0 + (1 * ρ 1 + 0)) = _; omega) (by show 1 + (1 * ρ 1 + 0) = _; omega) (hm _ (List.mem_cons_of_mem _ (List.mem_cons_of_mem _ List.mem_cons_self)))) (cvm (c := 73) (by decide) (x' := ((ρ 1) + 6)) (y' := ((ρ 2))) (by show 6 + (1 * ρ 1 + 0) = _; omega) (by show 0 + (1 * ρ 2 + 0) = _; omega) (hm _ (List.mem_cons_of_mem _ (List.mem_cons_of_mem _ (List.mem_cons_of_mem _ List.mem_cons_self))))) (by have h := hF _ List.mem_cons_self; have h : 0 ≤ 0 + (1 * ρ 0 + ((-1) * ρ 1 + 0)) := h; omega) hG
  obtain ⟨f0, -⟩ := H
  exact ⟨_, List.mem_cons_self, ρ, fun _ _ => rfl, okM_n, okB_n, (okF_c (by show 0 ≤ (-1) + ((-1) * ρ 2 + 0); omega) okF_n)⟩
-- nzt_1
theorem cr_799 (M : pM) (s0 s1 s2 : Int) (b0 : 0 ≤ s0 ∧ s0 ≤ 5) (b1 : 0 ≤ s1 ∧ s1 ≤ 5) (b2 : 0 ≤ s2 ∧ s2 ≤ 100) (m0 : HP 184 (0 : Int) (0 : Int) M) (m1 : HP 188 (8 * s0) (0 : Int) M) (m2 : HP 186 (8 * s0 + s1 + 1) (s1 + 1) M) (m3 : (0 ≤ (s1) ∧ M 16 (s1).toNat = (s2))) (f0 : 0 ≤ (s0 + (-1) * s1)) (hG : gI M) : (0 ≤ ((-1) * s2 - 1) ∧ True) := by
  have hE := Eq.mp hp_184 m0
  have hq : ∀ i : Nat, i < 6 → (M 16 (0 + i) < 0 ↔ M 73 (6 + i) < 0) := by
    intro i hi
    have z : M 16 (0 + i) = M 16 i := by rw [Nat.zero_add]
    have z2 : M 73 (6 * 1 + i) = M 73 (6 + i) := by rw [show 6 * 1 + i = 6 + i by omega]
    rw [z, ← z2]
    have e : M 16 i = M 73 (6 * 1 + i) := eq_t (b := 1) hE hi
    rw [e]
  obtain ⟨pa, pi, p1, p2, p3, p4, p5⟩ := Eq.mp hp_188 m1
  have hu := m3.2
  rw [show (s1).toNat = 0 + s1.toNat by omega] at hu
  have := p5 s1.toNat (by omega) (by omega)
  rw [← hq s1.toNat (by omega), hu] at this
  exact ⟨by omega, trivial⟩
theorem rul_799 : Rul r_799 := by
  refine ⟨fun _ ρ M hm hB hF hG => ?_, fun gi gv hg => (by cases hg)⟩
  have H := cr_799 M (ρ 0) (ρ 1) (ρ 2) (hB _ List.mem_cons_self) (hB _ (List.mem_cons_of_mem _ List.mem_cons_self)) (hB _ (List.mem_cons_of_mem _ (List.mem_cons_of_mem _ List.mem_cons_self))) (cvp 184 (x' := (0 : Int)) (y' := (0 : Int)) (by show 0 + 0 = _; omega) (by show 0 + 0 = _; omega) (hm _ List.mem_cons_self)) (cvp 188 (x' := (8 * (ρ 0))) (y' := (0 : Int)) (by show 0 + (8 * ρ 0 + 0) = _; omega) (by show 0 + 0 = _; omega) (hm _ (List.mem_cons_of_mem _ List.mem_cons_self))) (cvp 186 (x' := (8 * (ρ 0) + (ρ 1) + 1)) (y' := ((ρ 1) + 1)) (by show 1 + (8 * ρ 0 + (1 * ρ 1 + 0)) = _; omega) (by show 1 + (1 * ρ 1 + 0) = _; omega) (hm _ (List.mem_cons_of_mem _ (List.mem_cons_of_mem _ List.mem_cons_self)))) (cvm (c := 16) (by decide) (x' := ((ρ 1))) (y' := ((ρ 2))) (by show 0 + (1 * ρ 1 + 0) = _; omega) (by show 0 + (1 * ρ 2 + 0) = _; omega) (hm _ (List.mem_cons_of_mem _ (List.mem_cons_of_mem _ (List.mem_cons_of_mem _ List.mem_cons_self))))) (by have h := hF _ List.mem_cons_self; have h : 0 ≤ 0 + (1 * ρ 0 + ((-1) * ρ 1 + 0)) := h; omega) hG
  obtain ⟨f0, -⟩ := H
  exact ⟨_, List.mem_cons_self, ρ, fun _ _ => rfl, okM_n, okB_n, (okF_c (by show 0 ≤ (-1) + ((-1) * ρ 2 + 0); omega) okF_n)⟩
